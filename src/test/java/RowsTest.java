/** Promises 52 to 56: numbers that wait, rows that are checked, images, how many there are. */
public final class RowsTest {
    private static final int BAD = Due.BAD, NO = Due.NO, FULL = Due.FULL, SPENT = Due.SPENT, NONE = Due.NONE;

    public static void main(String[] args) {
        telling();
        checkingOrder();
        checkingNothing();
        checkingDays();
        checkingFar();
        usedUp();
        images();
        imageKeepsAll();
        notInImage();
        counting();
        Due.end();
    }

    private static void due(String call, long got, long want) {
        Due.due(call, got, want);
    }

    private static int check(TokenValley x, int what, int fund, int income, int... numbers) {
        for (int number : numbers) x.tell(number);
        int answer = x.check(what, fund, income);
        due("53: none wait then", x.count(9), 0);
        return answer;
    }

    private static void telling() {
        TokenValley x = new TokenValley();
        for (int i = 1; i <= 60; i++) due("52: how many", x.tell(-i), i);
        due("52: FULL", x.tell(1), FULL);
        due("56: they wait", x.count(9), 60);
        due("53: used up", x.check(9, 9, 9), BAD);
        due("52: one again", x.tell(1), 1);
    }

    private static void checkingOrder() {
        TokenValley x = new TokenValley();
        x.choice(20, 5, 0);
        x.choice(30, 9, 0);
        x.choice(5, 1, 2);
        due("53: right", check(x, 0, 10, 5, 0, 2, 1, 5, 2, 6), 0);
        due("53: the last wrong", check(x, 0, 10, 5, 0, 2, 1, 5, 2, 7), 6);
        due("53: the first wrong", check(x, 0, 10, 5, 1, 2, 1, 5, 2, 6), 1);
        due("53: the fourth wrong", check(x, 0, 10, 5, 0, 2, 1, 4, 2, 6), 4);
        due("53: one is missing", check(x, 0, 10, 5, 0, 2, 1, 5, 2), 6);
        due("53: all are missing", check(x, 0, 10, 5), 1);
        due("53: one too many", check(x, 0, 10, 5, 0, 2, 1, 5, 2, 6, 0), 7);
        due("53: fund", check(x, 0, -1, 5, 1), BAD);
        due("53: fund above", check(x, 0, 10000, 5, 1), BAD);
        due("53: income", check(x, 0, 10, 100, 1), BAD);
        due("53: income below", check(x, 0, 10, -1, 1), BAD);
        due("53: what 2", check(x, 2, 10, 5, 1), BAD);
        due("53: what -1", check(x, -1, 10, 5, 1), BAD);
        due("53: NO", check(x, 0, 0, 0, 1), NO);
        for (int i = 3; i < 8; i++) x.choice(0, 0, 0);
        due("53: SPENT", check(x, 0, 9999, 5, 1), SPENT);
        due("53: BAD ahead of SPENT", check(x, 0, 10000, 5, 1), BAD);
    }

    private static void checkingNothing() {
        TokenValley x = new TokenValley();
        due("53: no rows", check(x, 0, 10, 5), 0);
        due("53: one too many of none", check(x, 0, 10, 5, 0), 1);
        due("53: no IMAGE", check(x, 1, 1, 5, 0), NO);
        due("53: BAD ahead of that", check(x, 1, 0, 5, 0), BAD);
    }

    private static void checkingDays() {
        TokenValley x = new TokenValley();
        x.shop(0, 5, 4, 0);
        x.man(0, 2, 1);
        x.man(0, 1, 1);
        x.run(4);
        x.keep();
        x.run(3);
        x.man(0, 9, 9);
        x.shelf(0, 2, 99);
        // EARNED of both: 60 a DAY, PAY behind DAY 6; OWED: 4 loaves of 5 in two DAYS
        due("53: DAYS", check(x, 1, 4, -99, 300, 20, 360, 20, 0, 0, 60, 0), 0);
        due("53: the sixth wrong", check(x, 1, 4, 0, 300, 20, 360, 20, 0, 20, 60, 0), 6);
        due("53: missing", check(x, 1, 4, 0, 300, 20, 360, 20), 5);
        due("53: too many", check(x, 1, 2, 0, 300, 20, 360, 20, 0, 0), 5);
        due("53: n 0", check(x, 1, 0, 0, 1), BAD);
        due("53: n 29", check(x, 1, 29, 0, 1), BAD);
        due("53: no DAY went by", x.count(11), 7);
        due("53: nor for the IMAGE", x.back(), 4);
        due("53: as it was", x.is(0, 10), 160);
        Due.text(x, "wage 1", 6);
        x.keep();
        due("53: a TEXT of a later DAY", check(x, 1, 3, 0, 300, 20, 360, 20, 0, 0), 0);
        Due.text(x, "wage t", 6);
        x.keep();
        for (int d = 0; d < 28; d++) {
            x.run(1);
            x.tell(x.is(0, 10) + x.is(1, 10));
            x.tell(x.is(0, 11) + x.is(1, 11));
        }
        due("53: 28 DAYS, GONE ones, too", x.check(1, 28, 7), 0);
        due("56: GONE", x.count(2), 2);
    }

    private static void checkingFar() {
        TokenValley x = new TokenValley();
        x.man(0, 1, 1);
        x.be(0, 3, 99999);
        for (int i = 0; i < 116; i++) x.run(60);
        x.run(39);
        due("54: the last DAY", x.keep(), 6999);
        // DAY 6999 ends its WEEK: PAY
        due("53: beyond DAY 6999", check(x, 1, 2, 0, 0, 0, 20, 0), 0);
        due("53: wrong beyond DAY 6999", check(x, 1, 2, 0, 0, 0, 0, 0), 3);
        due("13: it stays the last", x.run(1), FULL);
    }

    private static void usedUp() {
        TokenValley x = new TokenValley();
        x.tell(5);
        x.keep();
        x.tell(6);
        due("54: numbers that wait stay", x.count(9), 2);
        x.back();
        due("55: and here", x.count(9), 2);
        due("53: used up by NO as well", x.check(1, 99, 0), BAD);
        due("56: none wait", x.count(9), 0);
    }

    private static void images() {
        TokenValley x = new TokenValley();
        due("55: none", x.back(), NO);
        x.man(0, 1, 1);
        x.be(0, 3, 99);
        x.run(2);
        due("54: the DAY", x.keep(), 2);
        x.run(5);
        due("55: the DAY", x.back(), 2);
        x.run(1);
        due("55: again", x.back(), 2);
        due("55: and again", x.back(), 2);
        due("55: BREAD", x.is(0, 3), 97);
        x.run(3);
        due("54: another one", x.keep(), 5);
        x.run(1);
        due("55: the new one", x.back(), 5);
    }

    private static void imageKeepsAll() {
        TokenValley x = new TokenValley();
        x.keep();
        x.pit(1, 0, 50);
        x.pit(1, 1, 50);
        x.shop(0, 1, 999, 0);
        x.man(1, 3, 1);
        x.hear(0, 0);
        x.strike(0, 7);
        x.rule(0, 7);
        x.rule(1, 8);
        x.rule(2, 9);
        Due.text(x, "coin 3", 0);
        x.end(1, 1, 1, 1);
        x.breach(1, 1, 1);
        x.choice(1, 1, 1);
        x.run(8);
        x.back();
        for (int what = 0; what <= 14; what++) due("55: count " + what, x.count(what), 0);
        for (int what = 0; what <= 5; what++) due("55: PIT " + what, x.dug(1, what), what == 0 ? 20 : what == 1 ? 100 : 0);
        due("55: LIMIT", x.rule(0, 1), 100);
        due("55: STORE", x.rule(1, 1), 0);
        due("55: ORDERS", x.rule(2, 1), 0);
        due("55: THE RULE", x.rules(3, 0, 0, 0), 100);
        due("55: no TEXT counts", x.why(3), NONE);
        due("55: ROUND", x.round(), 0);
        due("55: seen", x.seen(7), 0);
        due("55: plan", x.plan(0, 0, 1), 0);
        due("55: a new MAN", x.man(2, 2, 2), 0);
        for (int what = 3; what <= 11; what++) due("55: as new " + what, x.is(0, what), 0);
        x.shop(1, 4, 0, 0);
        due("55: KNOWS nothing", x.known(0, 0, 0), NONE);
        due("55: its DEBT", x.told(1, 0), 6);
        due("55: a new DUE", x.fine(0, 3, 3), 2);
        due("55: not out", x.told(2, 6), NONE);
        due("55: another TEXT", Due.text(x, "coin 4", 0), 0);
        due("55: THE RULE of it", x.rules(3, 0, 0, 0), 4);
        x.keep();
        x.end(0, 0, 0, 1);
        x.let(2);
        x.stop(0, 5, 5);
        x.hear(0, 0);
        x.back();
        due("55: OPEN again", x.told(2, 5), 0);
        due("55: no STOP", x.told(3, 0), BAD);
        due("55: KNOWS nothing again", x.known(0, 0, 0), NONE);
        due("55: its TEXT stayed", x.rules(3, 0, 0, 0), 4);
    }

    private static void notInImage() {
        TokenValley x = new TokenValley();
        x.book(0, 0, 2);
        x.keep();
        x.note(0, 1, 8);
        x.book(1, 1, 3);
        x.feed(1, 2, 3);
        x.tell(4);
        x.back();
        due("55: not BOOKS", x.read(0, 1), 8);
        due("55: nor new ones", x.read(1, 2), 0);
        due("55: not THE TAPE", x.count(10), 12);
        due("55: not numbers that wait", x.count(9), 1);
    }

    private static void counting() {
        TokenValley x = new TokenValley();
        x.shop(0, 1, 0, 0);
        x.shop(0, 1, 0, 0);
        for (int i = 0; i < 3; i++) x.man(0, 1, 1);
        x.be(1, 3, 99);
        x.be(2, 3, 99);
        x.be(0, 4, 5);
        x.be(1, 4, 6);
        x.be(0, 5, 70);
        x.be(2, 5, 80);
        x.strike(0, 1);
        x.strike(0, 1);
        x.fine(1, 1, 1);
        x.melt(6);
        Due.text(x, "coin 0", 0);
        x.breach(0, 0, 0);
        x.choice(1, 1, 1);
        x.choice(1, 1, 1);
        x.tell(1);
        x.feed(1, 1, 1);
        int[] want = {2, 3, 0, 9, 9, 1, 1, 1, 2, 1, 12, 0, 0, 11, 151};
        for (int what = 0; what <= 14; what++) due("56: count " + what, x.count(what), want[what]);
        x.run(15);
        due("56: GONE", x.count(2), 1);
        due("56: OPEN", x.count(4), 6);
        due("56: the DAY", x.count(11), 15);
        due("56: the WEEK", x.count(12), 2);
        due("56: COIN of all", x.count(13), 11);
        due("56: what 15", x.count(15), BAD);
        due("56: what -1", x.count(-1), BAD);
    }
}
