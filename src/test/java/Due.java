/** What the tests share: answers that are due, sentences that they hold, and texts put on the tape. */
final class Due {
    static final int BAD = -1000000001, NO = -1000000002, FULL = -1000000003, SPENT = -1000000004, NONE = -1000000005;
    static final int NOTHING = -1000000011, KIND = -1000000012, INDEX = -1000000013, SIZE = -1000000014;

    private static int wrong;
    private static int asked;
    private static String said = "";

    private Due() {
    }

    /** What is asked from here on holds a sentence of the document, for a promise. */
    static void says(int promise, String sentence) {
        said = "promise " + promise + ", \"" + sentence + "\": ";
    }

    static void due(String call, long got, long want) {
        asked++;
        if (got == want) return;
        wrong++;
        System.out.println(said + call + " answered " + got + ", due is " + want);
    }

    /** Asks for some numbers in a row. */
    static void row(String call, int[] got, int... want) {
        due(call + ", how many", got.length, want.length);
        for (int i = 0; i < got.length && i < want.length; i++) due(call + ", number " + i, got[i], want[i]);
    }

    /** Puts a text on the tape, whatever was there. */
    static void tape(TokenValley x, String text) {
        x.trim(0);
        for (int i = 0; i < text.length(); i += 12) {
            x.feed(four(text, i), four(text, i + 4), four(text, i + 8));
        }
        due("trim to " + text, x.trim(text.length()), text.length());
    }

    private static int four(String text, int from) {
        int number = 0;
        for (int i = from; i < from + 4; i++) number = number << 8 | (i < text.length() ? text.charAt(i) & 255 : 0);
        return number;
    }

    static int text(TokenValley x, String text, int day) {
        tape(x, text);
        return x.text(day);
    }

    static void end() {
        System.out.println(asked + " asked, " + wrong + " wrong");
        if (wrong != 0) System.exit(1);
    }
}
