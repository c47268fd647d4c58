/** The sentences of the document's term 5 that name an edge, in its order; each with the promise that shows it. */
public final class TermsOfBooksTest {
    private static final int BAD = Due.BAD, NOTHING = Due.NOTHING, KIND = Due.KIND, INDEX = Due.INDEX, SIZE = Due.SIZE;
    private static final int LEAST = Integer.MIN_VALUE, MOST = Integer.MAX_VALUE;

    public static void main(String[] args) {
        weeks();
        missing();
        lowestBits();
        blanks();
        blankAgainAndAgain();
        reading();
        copying();
        copyingNothing();
        copyingWithin();
        together();
        notInImages();
        Due.end();
    }

    private static void due(String call, long got, long want) {
        Due.due(call, got, want);
    }

    private static int[] read(TokenValley x, int pit, int many) {
        int[] row = new int[many];
        for (int week = 0; week < many; week++) row[week] = x.read(pit, week);
        return row;
    }

    private static void note(TokenValley x, int pit, int... numbers) {
        for (int week = 0; week < numbers.length; week++) due("note", x.note(pit, week, numbers[week]), 1);
    }

    private static void weeks() {
        Due.says(35, "rows of ints (sort 0) or shorts (1), with 0 to 30 WEEKS");
        TokenValley x = new TokenValley();
        for (int sort = 0; sort <= 1; sort++) {
            for (int pit = 0; pit < 8; pit++) {
                due("0 WEEKS", x.book(pit, sort, 0), 0);
                due("WEEK 0 of 0", x.read(pit, 0), INDEX);
                due("1 WEEK", x.book(pit, sort, 1), 1);
                due("WEEK 0 of 1", x.read(pit, 0), 0);
                due("WEEK 1 of 1", x.read(pit, 1), INDEX);
                due("30 WEEKS", x.book(pit, sort, 30), 30);
                due("WEEK 29 of 30", x.read(pit, 29), 0);
                due("WEEK 30 of 30", x.read(pit, 30), INDEX);
                due("31 WEEKS", x.book(pit, sort, 31), BAD);
                due("most WEEKS", x.book(pit, sort, MOST), BAD);
                due("30 still", x.read(pit, 29), 0);
            }
        }
        Due.says(35, "SIZE: a number of WEEKS is below 0");
        due("-1", x.book(0, 0, -1), SIZE);
        due("least", x.book(0, 1, LEAST), SIZE);
        due("the BOOK stays", x.read(0, 29), 0);
        Due.says(35, "BAD: pit, sort, n above 30; SIZE");
        due("PIT -1", x.book(-1, 0, 1), BAD);
        due("PIT 8", x.book(8, 0, 1), BAD);
        due("sort -2", x.book(0, -2, 1), BAD);
        due("sort 2", x.book(0, 2, 1), BAD);
        due("a BAD sort and SIZE", x.book(0, 2, -1), BAD);
        due("a BAD PIT and SIZE", x.book(8, 0, -1), BAD);
        Due.says(35, "The BOOK of a PIT becomes a row of n WEEKS of a sort, all 0");
        note(x, 0, 1, 2, 3);
        due("anew", x.book(0, 0, 3), 3);
        Due.row("all 0", read(x, 0, 3), 0, 0, 0);
        note(x, 0, 1, 2, 3);
        x.book(0, 0, 1);
        x.book(0, 0, 3);
        Due.row("all 0 again", read(x, 0, 3), 0, 0, 0);
    }

    private static void missing() {
        Due.says(35, "or MISSING (at first)");
        TokenValley x = new TokenValley();
        for (int pit = 0; pit < 8; pit++) {
            due("read", x.read(pit, 0), NOTHING);
            due("note", x.note(pit, 0, 1), NOTHING);
            due("copy from", x.copy(pit, 0, pit, 0, 0), NOTHING);
        }
        Due.says(35, "sort -1: MISSING, n any): n (0)");
        int[] any = {LEAST, -1, 0, 1, 30, 31, MOST};
        for (int n : any) {
            x.book(0, 0, 5);
            due("n " + n, x.book(0, -1, n), 0);
            due("it is MISSING", x.read(0, 0), NOTHING);
            due("it was MISSING", x.book(0, -1, n), 0);
        }
        due("PIT 8", x.book(8, -1, 0), BAD);
        Due.says(36, "NOTHING: a BOOK is MISSING");
        due("ahead of INDEX", x.note(0, 99, 1), NOTHING);
        due("BAD ahead of it", x.note(8, 99, 1), BAD);
        due("BAD below", x.note(-1, 0, 1), BAD);
        Due.says(37, "NOTHING: a BOOK is MISSING");
        due("ahead of INDEX", x.read(0, -1), NOTHING);
        due("BAD ahead of it", x.read(8, -1), BAD);
        due("BAD below", x.read(-1, 0), BAD);
    }

    private static void lowestBits() {
        Due.says(36, "of shorts its lowest 16 bits");
        TokenValley x = new TokenValley();
        x.book(0, 1, 1);
        int[][] rows = {{0, 0}, {32767, 32767}, {-1, -1}, {-32767, -32767}, {32769, -32767}, {65535, -1}, {65536, 0}, {65537, 1}, {-32769, 32767},
            {-65536, 0}, {MOST, -1}, {LEAST, 0}, {LEAST + 1, 1}, {0x12345678, 0x5678}, {0x1234ffff, -1}};
        for (int[] r : rows) {
            due("note", x.note(0, 0, r[0]), 1);
            due("lowest bits of " + r[0], x.read(0, 0), r[1]);
        }
        x.book(1, 0, 1);
        int[] ints = {0, 32767, 32768, -32768, -32769, 65536, MOST, LEAST + 1};
        for (int v : ints) {
            due("note", x.note(1, 0, v), 1);
            due("of ints all of " + v, x.read(1, 0), v);
        }
    }

    private static void blanks() {
        Due.says(36, "BLANK, Integer.MIN_VALUE of ints: BLANK");
        TokenValley x = new TokenValley();
        x.book(0, 0, 2);
        x.book(1, 1, 2);
        note(x, 0, 5, LEAST);
        note(x, 1, 6, -32768);
        due("of ints", x.read(0, 1), 5);
        due("of shorts", x.read(1, 1), 6);
        note(x, 0, 5, -32768);
        note(x, 1, 6, LEAST);
        due("-32768 is none of ints", x.read(0, 1), -32768);
        due("the least int is none of shorts", x.read(1, 1), 0);
        note(x, 1, 6, 32768);
        due("32768 has its lowest 16 bits", x.read(1, 1), 6);
        due("the constant", TokenValley.BLANK, -32768);
        note(x, 0, 5, LEAST);
        due("INDEX of a WEEK -1", x.note(0, -1, 1), INDEX);
        due("INDEX of a WEEK 2", x.note(0, 2, 1), INDEX);
        due("INDEX of the least WEEK", x.note(0, LEAST, 1), INDEX);
        due("INDEX of the most WEEK", x.note(0, MOST, 1), INDEX);
        due("a BLANK becomes a number", x.note(0, 1, 9), 1);
        due("that one", x.read(0, 1), 9);
    }

    private static void blankAgainAndAgain() {
        Due.says(37, "A WEEK may be BLANK: it is as the WEEK ahead (again and again)");
        for (int sort = 0; sort <= 1; sort++) {
            TokenValley x = new TokenValley();
            int blank = sort == 0 ? LEAST : TokenValley.BLANK;
            x.book(2, sort, 30);
            due("note", x.note(2, 0, -9), 1);
            for (int week = 1; week < 30; week++) x.note(2, week, blank);
            for (int week = 0; week < 30; week++) due("WEEK " + week, x.read(2, week), -9);
            x.note(2, 0, 8);
            due("as the first is now", x.read(2, 29), 8);
            x.note(2, 15, 7);
            due("ahead of a number", x.read(2, 14), 8);
            due("behind it", x.read(2, 16), 7);
            x.note(2, 0, blank);
            Due.says(37, "KIND: BLANK from the first WEEK on");
            for (int week = 0; week < 15; week++) due("WEEK " + week, x.read(2, week), KIND);
            for (int week = 15; week < 30; week++) due("WEEK " + week, x.read(2, week), 7);
            due("INDEX is none of it", x.read(2, 30), INDEX);
            x.note(2, 15, blank);
            due("all BLANK", x.read(2, 29), KIND);
            Due.says(37, "A WEEK may be BLANK: it is as the WEEK ahead (again and again)");
        }
    }

    private static void reading() {
        Due.says(37, "INDEX: there is no such WEEK");
        TokenValley x = new TokenValley();
        x.book(0, 0, 3);
        int[] weeks = {LEAST, -1, 3, 30, MOST};
        for (int week : weeks) due("WEEK " + week, x.read(0, week), INDEX);
        x.book(0, 1, 0);
        for (int week : weeks) due("of none, WEEK " + week, x.read(0, week), INDEX);
        due("of none, WEEK 0", x.read(0, 0), INDEX);
    }

    private static void copying() {
        Due.says(38, "BAD; NOTHING; KIND: they are not of one sort; INDEX (many below 0, too;");
        TokenValley x = new TokenValley();
        x.book(0, 0, 4);
        x.book(1, 0, 3);
        x.book(2, 1, 4);
        note(x, 0, 10, 20, LEAST, 40);
        note(x, 1, 1, 2, 3);
        int[] bad = {LEAST, -1, 8, MOST};
        for (int pit : bad) {
            due("from", x.copy(pit, 0, 1, 0, 1), BAD);
            due("to", x.copy(0, 0, pit, 0, 1), BAD);
            due("BAD ahead of NOTHING", x.copy(7, 0, pit, 0, 1), BAD);
            due("BAD ahead of INDEX", x.copy(0, -1, pit, 0, -1), BAD);
        }
        due("MISSING from", x.copy(7, 0, 0, 0, 1), NOTHING);
        due("MISSING to", x.copy(0, 0, 7, 0, 1), NOTHING);
        due("NOTHING ahead of INDEX", x.copy(0, 99, 7, 0, -1), NOTHING);
        due("NOTHING ahead of KIND", x.copy(7, 0, 2, 0, 1), NOTHING);
        due("ints to shorts", x.copy(0, 0, 2, 0, 1), KIND);
        due("shorts to ints", x.copy(2, 0, 0, 0, 1), KIND);
        due("KIND with many 0", x.copy(2, 0, 0, 0, 0), KIND);
        due("KIND ahead of INDEX", x.copy(2, -1, 0, 99, -1), KIND);
        int[][] index = {{-1, 0, 1}, {0, -1, 1}, {0, 0, -1}, {0, 0, LEAST}, {4, 0, 1}, {0, 3, 1}, {1, 0, 4}, {0, 0, 4}, {0, 1, 3}, {2, 0, 3},
            {0, 0, MOST}, {1, 1, MOST}, {MOST, 0, 1}, {0, MOST, 1}, {MOST, MOST, MOST}, {LEAST, 0, 1}, {0, LEAST, 1}, {-1, 0, 0}, {0, -1, 0}};
        for (int[] i : index) due("INDEX", x.copy(0, i[0], 1, i[1], i[2]), INDEX);
        Due.row("nothing came", read(x, 1, 3), 1, 2, 3);
        due("as many as there are", x.copy(0, 1, 1, 0, 3), 3);
        Due.row("they came", read(x, 1, 3), 20, 20, 40);
        x.note(1, 0, 9);
        due("BLANK, as it was", x.read(1, 1), 9);
    }

    private static void copyingNothing() {
        Due.says(38, "many 0: not at the WEEK behind the last one");
        TokenValley x = new TokenValley();
        x.book(0, 0, 4);
        x.book(1, 0, 3);
        for (int week = 0; week <= 4; week++) {
            for (int at = 0; at <= 3; at++) due("0 WEEKS from " + week + " to " + at, x.copy(0, week, 1, at, 0), 0);
        }
        due("beyond that one", x.copy(0, 5, 1, 0, 0), INDEX);
        due("beyond that one, to", x.copy(0, 0, 1, 4, 0), INDEX);
        due("most", x.copy(0, MOST, 1, 0, 0), INDEX);
        due("-1", x.copy(0, -1, 1, 0, 0), INDEX);
        due("one WEEK from there", x.copy(0, 4, 1, 0, 1), INDEX);
        due("one WEEK to there", x.copy(0, 0, 1, 3, 1), INDEX);
        x.book(2, 0, 0);
        due("of BOOKS without WEEKS", x.copy(2, 0, 2, 0, 0), 0);
        due("one of these", x.copy(2, 0, 2, 0, 1), INDEX);
    }

    private static void copyingWithin() {
        Due.says(38, "So many WEEKS of a BOOK come to another one (or the same), as they were: many");
        TokenValley x = new TokenValley();
        for (int sort = 0; sort <= 1; sort++) {
            x.book(5, sort, 6);
            note(x, 5, 1, 2, 3, 4, 5, 6);
            due("up by one", x.copy(5, 0, 5, 1, 5), 5);
            Due.row("as they were", read(x, 5, 6), 1, 1, 2, 3, 4, 5);
            due("down by two", x.copy(5, 2, 5, 0, 4), 4);
            Due.row("as they were", read(x, 5, 6), 2, 3, 4, 5, 4, 5);
            due("where they are", x.copy(5, 0, 5, 0, 6), 6);
            Due.row("as they are", read(x, 5, 6), 2, 3, 4, 5, 4, 5);
            x.book(6, sort, 30);
            due("six of thirty", x.copy(5, 0, 6, 24, 6), 6);
            due("the last", x.read(6, 29), 5);
            due("ahead of them", x.read(6, 23), 0);
            due("thirty", x.copy(6, 0, 6, 0, 30), 30);
        }
    }

    private static void together() {
        Due.says(39, "NOT WEIGHED of a WEEK: how many PITS cannot be READ; ALL: what can be READ of all PITS together (an int, wrapping)");
        TokenValley x = new TokenValley();
        due("all MISSING", x.all(0, 1), 8);
        due("together", x.all(0, 0), 0);
        for (int pit = 0; pit < 8; pit++) {
            x.book(pit, pit & 1, pit + 1);
            for (int week = 0; week <= pit; week++) x.note(pit, week, 1 + pit);
        }
        for (int week = 0; week < 9; week++) {
            int sum = 0;
            for (int pit = week; pit < 8; pit++) sum += 1 + pit;
            due("ALL of WEEK " + week, x.all(week, 0), sum);
            due("NOT WEIGHED of WEEK " + week, x.all(week, 1), week);
        }
        due("a far WEEK", x.all(MOST, 0), 0);
        due("a far WEEK", x.all(MOST, 1), 8);
        x.note(0, 0, LEAST);
        due("BLANK from the first on", x.all(0, 1), 1);
        due("without it", x.all(0, 0), 35);
        x.note(2, 0, MOST);
        x.note(4, 0, MOST);
        due("most and most and 27", x.all(0, 0), 25);
        x.note(4, 0, 1);
        due("most and 28", x.all(0, 0), LEAST + 27);
        x.note(2, 0, LEAST + 1);
        x.note(4, 0, -99);
        due("least + 1, -99 and 27", x.all(0, 0), MOST - 70);
        Due.says(39, "BAD: week below 0, what");
        due("WEEK -1", x.all(-1, 0), BAD);
        due("least WEEK", x.all(LEAST, 1), BAD);
        due("what -1", x.all(0, -1), BAD);
        due("what 2", x.all(0, 2), BAD);
    }

    private static void notInImages() {
        Due.says(55, "AN IMAGE keeps all but BOOKS, numbers that wait, THE TAPE");
        TokenValley x = new TokenValley();
        x.book(0, 0, 2);
        x.note(0, 0, 1);
        x.keep();
        x.note(0, 0, 2);
        x.book(1, 1, 1);
        x.book(0, 0, 2);
        x.note(0, 1, 3);
        due("back", x.back(), 0);
        Due.row("as they were ahead of it", read(x, 0, 2), 0, 3);
        due("and the new one", x.read(1, 0), 0);
    }
}
