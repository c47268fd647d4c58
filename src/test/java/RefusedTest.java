import java.util.function.ToIntFunction;

/**
 * "A call that is refused answers one of BAD, NO, FULL, SPENT, or a FINDING, of several the one that stands first with
 * it, and changes nothing (but the tape and the numbers that wait, where told)": promise by promise, each refusal that
 * the document names, and each two of one call that hold at once.
 */
public final class RefusedTest {
    private static final int BAD = Due.BAD, NO = Due.NO, FULL = Due.FULL, SPENT = Due.SPENT, NONE = Due.NONE;
    private static final int NOTHING = Due.NOTHING, KIND = Due.KIND, INDEX = Due.INDEX, SIZE = Due.SIZE;
    private static final int LEAST = Integer.MIN_VALUE, MOST = Integer.MAX_VALUE;
    /** Numbers that are wrong wherever 0 is right. */
    private static final int[] BELOW = {LEAST, -1};

    private static TokenValley x;
    private static String before;

    public static void main(String[] args) {
        settle();
        valley();
        men();
        newDues();
        oldDues();
        reckonings();
        tapeAndTexts();
        books();
        waysAndRounds();
        plans();
        rowsAndImages();
        tapeAndNumbersStay();
        fullOfAll();
        atTheLastDay();
        usedUp();
        Due.end();
    }

    /**
     * MEN 0, 1 in the valley, 2 GONE; DUES 0 to 5 theirs, 6 DRAW (DONE), 7 CHECK (DONE, out), 8 FINE (DONE), 9 STOP, 10 FINE
     * (BACK), 11 CHECK (melted), 12 STOP (DONE), 13 FINE (OPEN); SHOPS 0 COMPANY, 1 TOWN; TEXTS 0 due, 1 act.
     */
    private static void settle() {
        x = new TokenValley();
        x.shop(0, 5, 900, 0);
        x.shop(1, 3, 900, 4);
        x.man(0, 5, 1);
        x.man(1, 3, 2);
        x.man(2, 1, 9);
        x.be(0, 3, 40);
        x.be(1, 4, 50);
        x.rule(0, 40);
        x.draw(0, 10, 1);
        x.strike(0, 20);
        x.fine(0, 30, 1);
        x.stop(0, 5, 2);
        x.let(x.fine(0, 40, 1));
        x.melt(x.strike(1, 15));
        x.let(x.stop(1, 6, 3));
        Due.text(x, "due 1", 0);
        Due.text(x, "act m=1", 0);
        x.run(14);
        x.fine(1, 50, 4);
        x.hear(1, 1);
        x.be(2, 4, 0);
        x.rule(1, 1000);
        x.rule(2, 200);
        x.end(1, 1, 1, 1);
        x.end(2, 2, 2, 1);
        x.breach(1, 2, 3);
        x.choice(30, 4, 0);
        x.choice(20, 3, 0);
        x.book(0, 0, 3);
        x.note(0, 1, 7);
        x.book(1, 1, 2);
        x.note(1, 0, -32768);
        x.keep();
        x.run(2);
        Due.tape(x, "coin 77");
        x.tell(1);
        x.tell(4);
        Due.due("MAN 2 is GONE", x.is(2, 9), 1);
        Due.due("MAN 1 is not", x.is(1, 9), 0);
        Due.due("DUES", x.count(3), 14);
        before = Seen.all(x);
    }

    private static void refused(int promise, String what, int want, ToIntFunction<TokenValley> call) {
        Due.says(promise, what);
        Due.due("it", call.applyAsInt(x), want);
        String after = Seen.all(x);
        Due.due("it changes nothing: that", after.equals(before) ? 1 : 0, 1);
        before = after;
    }

    private static void valley() {
        int[] pits = {LEAST, -1, 8, MOST};
        for (int pit : pits) {
            refused(2, "BAD pit " + pit, BAD, v -> v.pit(pit, 0, 5));
            refused(3, "BAD pit " + pit, BAD, v -> v.dug(pit, 0));
            refused(3, "BAD pit " + pit, BAD, v -> v.dug(pit, 5));
        }
        int[] weights = {LEAST, -1, 0, 100, MOST}, scales = {LEAST, -1, 0, 151, MOST};
        for (int v : weights) refused(2, "BAD WEIGHT " + v, BAD, o -> o.pit(0, 0, v));
        for (int v : scales) refused(2, "BAD SCALE " + v, BAD, o -> o.pit(0, 1, v));
        int[] whats = {LEAST, -1, 2, MOST};
        for (int what : whats) refused(2, "BAD what " + what, BAD, v -> v.pit(0, what, 5));
        int[] six = {LEAST, -1, 6, MOST};
        for (int what : six) refused(3, "BAD what " + what, BAD, v -> v.dug(0, what));
        int[][] shops = {{-1, 5, 5, 0}, {2, 5, 5, 0}, {0, 0, 5, 0}, {0, 100, 5, 0}, {0, 5, -1, 0}, {0, 5, 100000, 0}, {0, 5, 5, 1}, {0, 5, 5, -1},
            {1, 5, 5, -1}, {1, 5, 5, 100}, {1, -5, 5, 0}, {LEAST, MOST, LEAST, MOST}};
        for (int[] a : shops) refused(4, "BAD SHOP", BAD, v -> v.shop(a[0], a[1], a[2], a[3]));
        int[][] shelves = {{-1, 1, 5}, {2, 1, 5}, {MOST, 1, 5}, {0, 0, 1}, {0, 3, 1}, {1, 3, 1}, {0, -1, 1}, {0, 1, 0}, {0, 1, 100}, {0, 2, -1}, {0, 2, 100000}};
        for (int[] a : shelves) refused(5, "BAD", BAD, v -> v.shelf(a[0], a[1], a[2]));
        int[][] sells = {{-1, 0}, {2, 0}, {6, 0}, {LEAST, 1}, {MOST, 1}, {0, -1}, {0, 4}, {0, MOST}};
        for (int[] a : sells) refused(6, "BAD", BAD, v -> v.sells(a[0], a[1]));
        int[][] rules = {{-1, 5}, {3, 5}, {0, -1}, {0, 10000}, {1, -1}, {1, 100000}, {2, -1}, {2, 10000}, {MOST, 1}, {0, LEAST}};
        for (int[] a : rules) refused(12, "BAD", BAD, v -> v.rule(a[0], a[1]));
        int[] runs = {LEAST, -1, 0, 61, MOST};
        for (int n : runs) refused(13, "BAD n " + n, BAD, v -> v.run(n));
    }

    private static void men() {
        int[][] men = {{-1, 1, 1}, {8, 1, 1}, {0, -1, 1}, {0, 10, 1}, {0, 1, 0}, {0, 1, 10}, {MOST, MOST, MOST}};
        for (int[] a : men) refused(7, "BAD MAN", BAD, v -> v.man(a[0], a[1], a[2]));
        int[] others = {LEAST, -1, 3, 12, MOST};
        for (int man : others) {
            refused(8, "BAD man " + man, BAD, v -> v.is(man, 0));
            refused(8, "BAD man " + man, BAD, v -> v.is(man, 10));
            refused(9, "BAD man " + man, BAD, v -> v.be(man, 3, 1));
            refused(10, "BAD man " + man, BAD, v -> v.known(man, 0, 0));
            refused(11, "BAD man " + man, BAD, v -> v.hear(man, 0));
        }
        int[] whats = {LEAST, -1, 14, MOST};
        for (int what : whats) refused(8, "BAD what " + what, BAD, v -> v.is(0, what));
        int[][] be = {{-1, 1}, {6, 1}, {MOST, 1}, {0, -1}, {0, 8}, {1, -1}, {1, 10}, {2, 0}, {2, 10}, {3, -1}, {3, 100000}, {4, -1}, {4, 100000}, {5, -1}, {5, 100000}};
        for (int[] a : be) refused(9, "BAD what " + a[0] + ", v " + a[1], BAD, v -> v.be(0, a[0], a[1]));
        int[] shops = {LEAST, -1, 2, MOST};
        for (int shop : shops) {
            refused(10, "BAD shop " + shop, BAD, v -> v.known(1, shop, 0));
            refused(11, "BAD shop " + shop, BAD, v -> v.hear(1, shop));
        }
        refused(10, "BAD what", BAD, v -> v.known(1, 1, 2));
        refused(10, "BAD what", BAD, v -> v.known(1, 1, -1));
        refused(10, "NONE: nothing", NONE, v -> v.known(0, 1, 0));
        refused(10, "NONE: nothing", NONE, v -> v.known(0, 1, 1));
        refused(10, "BAD; NONE: BAD first", BAD, v -> v.known(0, 1, 2));
    }

    private static void newDues() {
        int[][] bad = {{-1, 5}, {3, 5}, {MOST, 5}, {0, 0}, {0, -5}, {0, 1000}, {0, LEAST}, {0, MOST}};
        for (int[] a : bad) {
            refused(14, "BAD: man, amount", BAD, v -> v.draw(a[0], a[1], 0));
            refused(15, "BAD: man, amount", BAD, v -> v.strike(a[0], a[1]));
            refused(16, "BAD: man, amount", BAD, v -> v.fine(a[0], a[1], 0));
            refused(17, "BAD: man, amount", BAD, v -> v.stop(a[0], a[1], 0));
        }
        int[] two = {LEAST, -1, 2, MOST}, ten = {LEAST, -1, 10, MOST};
        for (int sort : two) refused(14, "BAD: sort " + sort, BAD, v -> v.draw(0, 5, sort));
        for (int sort : ten) refused(16, "BAD: sort " + sort, BAD, v -> v.fine(0, 5, sort));
        for (int sort : ten) refused(17, "BAD: sort " + sort, BAD, v -> v.stop(0, 5, sort));
        refused(14, "NO: the MAN is GONE", NO, v -> v.draw(2, 5, 0));
        refused(15, "NO: GONE", NO, v -> v.strike(2, 5));
        refused(16, "NO: GONE", NO, v -> v.fine(2, 5, 0));
        refused(17, "NO: GONE", NO, v -> v.stop(2, 5, 0));
        refused(14, "BAD ahead of NO", BAD, v -> v.draw(2, 5, 2));
        refused(14, "BAD ahead of NO", BAD, v -> v.draw(2, 0, 0));
        refused(15, "BAD ahead of NO", BAD, v -> v.strike(2, 1000));
        refused(16, "BAD ahead of NO", BAD, v -> v.fine(2, 5, 10));
        refused(17, "BAD ahead of NO", BAD, v -> v.stop(2, 5, -1));
    }

    private static void oldDues() {
        int[] dues = {LEAST, -1, 14, 60, MOST};
        for (int due : dues) {
            refused(18, "BAD due " + due, BAD, v -> v.let(due));
            refused(19, "BAD due " + due, BAD, v -> v.sell(due, 0, 0));
            refused(20, "BAD due " + due, BAD, v -> v.melt(due));
            refused(21, "BAD due " + due, BAD, v -> v.told(due, 0));
            refused(22, "BAD due " + due, BAD, v -> v.as(due, 0));
        }
        int[] neither = {0, 1, 6, 7, 11};
        for (int due : neither) refused(18, "KIND: it is neither (DUE " + due + ")", KIND, v -> v.let(due));
        int[] closed = {8, 10, 12};
        for (int due : closed) refused(18, "NO: it is not OPEN (DUE " + due + ")", NO, v -> v.let(due));
        int[] noChecks = {0, 1, 6, 8, 9, 10, 12, 13};
        for (int due : noChecks) {
            refused(19, "KIND: no CHECK (DUE " + due + ")", KIND, v -> v.sell(due, 1, 0));
            refused(20, "KIND (DUE " + due + ")", KIND, v -> v.melt(due));
        }
        int[] men = {LEAST, -1, 3, MOST}, discounts = {LEAST, -1, 100, MOST};
        for (int man : men) refused(19, "BAD man " + man, BAD, v -> v.sell(7, man, 0));
        for (int d : discounts) refused(19, "BAD discount " + d, BAD, v -> v.sell(7, 1, d));
        refused(19, "BAD ahead of KIND", BAD, v -> v.sell(6, 1, 100));
        refused(19, "BAD ahead of NO", BAD, v -> v.sell(11, 3, 0));
        refused(19, "NO: it is not out", NO, v -> v.sell(11, 1, 0));
        refused(19, "NO: the MAN holds it", NO, v -> v.sell(7, 0, 0));
        refused(19, "NO: has not so much COIN", NO, v -> v.sell(7, 2, 0));
        refused(20, "NO: it is not out", NO, v -> v.melt(11));
        int[] whats = {LEAST, -1, 8, MOST};
        for (int what : whats) refused(21, "BAD what " + what, BAD, v -> v.told(7, what));
        refused(21, "NONE: it is not out", NONE, v -> v.told(11, 6));
        for (int due : noChecks) refused(21, "NONE: another KIND", NONE, v -> v.told(due, 6));
        int[] kinds = {LEAST, -1, 7, MOST};
        for (int kind : kinds) refused(22, "BAD: kind " + kind, BAD, v -> v.as(7, kind));
        refused(22, "KIND: it is not of that KIND, nor of one under it", KIND, v -> v.as(6, 3));
        refused(22, "KIND: a WAGE is not always a DRAW", KIND, v -> v.as(0, 2));
        refused(22, "KIND: a FINE is no WAGE", KIND, v -> v.as(8, 1));
        refused(22, "KIND: a DEBT is no STOP", KIND, v -> v.as(1, 5));
    }

    private static void reckonings() {
        int[] men = {LEAST, -1, 3, MOST};
        for (int man : men) {
            refused(23, "BAD man " + man, BAD, v -> v.wrong(man));
            refused(24, "BAD man " + man, BAD, v -> v.give(man));
            refused(25, "BAD man " + man, BAD, v -> v.worth(man, 0));
            refused(27, "BAD man " + man, BAD, v -> v.bound(man, 1, 1));
        }
        for (int man = 0; man < 3; man++) {
            int m = man;
            refused(24, "NO: there are none", NO, v -> v.give(m));
        }
        int[] nine = {LEAST, -1, 9, MOST};
        for (int what : nine) refused(25, "BAD what " + what, BAD, v -> v.worth(0, what));
        int[][] prove = {{-1, 5, 5, 0}, {8, 5, 5, 0}, {0, 0, 5, 0}, {0, 100, 100, 0}, {0, 5, 4, 0}, {0, 5, 100, 0}, {0, 5, 5, -1}, {0, 5, 5, 2}, {7, 0, 5, 0}};
        for (int[] a : prove) refused(26, "BAD: pit, what, low 1 .. 99, high low .. 99", BAD, v -> v.prove(a[0], a[1], a[2], a[3]));
        refused(26, "NONE: no TUBS", NONE, v -> v.prove(7, 5, 5, 0));
        refused(26, "NONE: no TUBS", NONE, v -> v.prove(7, 5, 5, 1));
        int[][] bound = {{-1, 1}, {10000, 1}, {LEAST, 1}, {1, 0}, {1, 100}, {1, -1}, {1, MOST}};
        for (int[] a : bound) refused(27, "BAD", BAD, v -> v.bound(0, a[0], a[1]));
        refused(27, "NONE", NONE, v -> v.bound(0, 1, 1));
        int[][] beside = {{0, 0}, {61, 0}, {-1, 0}, {MOST, 0}, {1, -1}, {1, 3}};
        for (int[] a : beside) refused(28, "BAD", BAD, v -> v.beside(a[0], a[1]));
    }

    private static void tapeAndTexts() {
        int[] trims = {LEAST, -1, 8, 96, 97, MOST};
        for (int n : trims) refused(30, "BAD n " + n, BAD, v -> v.trim(n));
        int[][] of = {{-1, 0}, {2, 0}, {12, 0}, {MOST, 0}, {0, -1}, {0, 3}};
        for (int[] a : of) refused(32, "BAD", BAD, v -> v.of(a[0], a[1]));
        int[] keys = {LEAST, -1, 7, MOST};
        for (int key : keys) {
            refused(33, "BAD key " + key, BAD, v -> v.why(key));
            refused(34, "BAD: key " + key, BAD, v -> v.rules(key, 1, 1, 1));
        }
        refused(33, "NONE", NONE, v -> v.why(0));
    }

    private static void books() {
        int[] pits = {LEAST, -1, 8, MOST};
        for (int pit : pits) {
            refused(35, "BAD: pit " + pit, BAD, v -> v.book(pit, 0, 1));
            refused(35, "BAD: pit " + pit + ", MISSING", BAD, v -> v.book(pit, -1, 1));
            refused(35, "BAD ahead of SIZE", BAD, v -> v.book(pit, 0, -1));
            refused(36, "BAD: pit " + pit, BAD, v -> v.note(pit, 0, 1));
            refused(37, "BAD: pit " + pit, BAD, v -> v.read(pit, 0));
            refused(38, "BAD", BAD, v -> v.copy(pit, 0, 0, 0, 1));
            refused(38, "BAD", BAD, v -> v.copy(0, 0, pit, 0, 1));
            refused(38, "BAD ahead of NOTHING", BAD, v -> v.copy(5, 0, pit, 0, 1));
            refused(38, "BAD ahead of INDEX", BAD, v -> v.copy(pit, 0, 0, 0, -1));
        }
        int[] sorts = {LEAST, -2, 2, MOST};
        for (int sort : sorts) refused(35, "BAD: sort " + sort, BAD, v -> v.book(0, sort, 1));
        for (int sort : sorts) refused(35, "BAD ahead of SIZE", BAD, v -> v.book(0, sort, -1));
        refused(35, "BAD: n above 30", BAD, v -> v.book(0, 0, 31));
        refused(35, "BAD: n above 30", BAD, v -> v.book(0, 1, MOST));
        for (int n : BELOW) refused(35, "SIZE", SIZE, v -> v.book(0, 1, n));
        int[] weeks = {LEAST, -1, 3, MOST};
        for (int week : weeks) {
            refused(36, "NOTHING ahead of INDEX", NOTHING, v -> v.note(5, week, 1));
            refused(37, "NOTHING ahead of INDEX", NOTHING, v -> v.read(5, week));
            refused(36, "INDEX", INDEX, v -> v.note(0, week, 1));
            refused(37, "INDEX", INDEX, v -> v.read(0, week));
            refused(38, "INDEX", INDEX, v -> v.copy(0, week, 0, 0, 1));
            refused(38, "INDEX", INDEX, v -> v.copy(0, 0, 0, week, 1));
            refused(38, "KIND ahead of INDEX", KIND, v -> v.copy(0, week, 1, 0, 1));
            refused(38, "NOTHING ahead of INDEX", NOTHING, v -> v.copy(5, week, 1, 0, 1));
        }
        refused(36, "NOTHING", NOTHING, v -> v.note(5, 0, 1));
        refused(37, "NOTHING", NOTHING, v -> v.read(5, 0));
        refused(37, "KIND: BLANK from the first WEEK on", KIND, v -> v.read(1, 0));
        refused(38, "NOTHING", NOTHING, v -> v.copy(5, 0, 0, 0, 1));
        refused(38, "NOTHING", NOTHING, v -> v.copy(0, 0, 5, 0, 1));
        refused(38, "KIND: they are not of one sort", KIND, v -> v.copy(0, 0, 1, 0, 1));
        refused(38, "KIND: they are not of one sort", KIND, v -> v.copy(1, 0, 0, 0, 0));
        for (int many : BELOW) refused(38, "INDEX (many below 0, too", INDEX, v -> v.copy(0, 0, 0, 0, many));
        refused(38, "INDEX: many beyond the last", INDEX, v -> v.copy(0, 1, 0, 0, 3));
        refused(38, "INDEX: many beyond the last", INDEX, v -> v.copy(0, 0, 0, 2, 2));
        refused(38, "INDEX: many beyond all", INDEX, v -> v.copy(0, 1, 0, 1, MOST));
        for (int week : BELOW) refused(39, "BAD: week below 0", BAD, v -> v.all(week, 0));
        refused(39, "BAD: what", BAD, v -> v.all(0, 2));
        refused(39, "BAD: what", BAD, v -> v.all(0, -1));
    }

    private static void waysAndRounds() {
        int[][] ends = {{-1, 0, 0, 1}, {4, 0, 0, 1}, {0, -1, 0, 1}, {0, 4, 0, 1}, {0, 0, -1, 1}, {0, 0, 3, 1}, {0, 0, 0, 2}, {0, 0, 0, -1}, {1, 1, 1, 2}};
        for (int[] a : ends) refused(40, "BAD", BAD, v -> v.end(a[0], a[1], a[2], a[3]));
        for (int i : BELOW) refused(42, "BAD: i below 0", BAD, v -> v.way(i));
        refused(42, "NONE", NONE, v -> v.way(1));
        refused(42, "NONE", NONE, v -> v.way(MOST));
        int[][] would = {{-1, 0}, {2, 0}, {12, 0}, {MOST, 0}, {1, -1}, {1, 2}, {0, 2}};
        for (int[] a : would) refused(43, "BAD: text, what", BAD, v -> v.would(a[0], a[1]));
        refused(43, "KIND: it is of another KEY", KIND, v -> v.would(0, 0));
        refused(43, "KIND: it is of another KEY", KIND, v -> v.would(0, 1));
        int[][] breach = {{-1, 0, 0}, {4, 0, 0}, {0, -1, 0}, {0, 7, 7}, {0, 4, 3}, {0, 0, 7}, {0, 0, -1}, {MOST, 0, 0}};
        for (int[] a : breach) refused(44, "BAD: place, from, to (from .. 6)", BAD, v -> v.breach(a[0], a[1], a[2]));
        int[] ns = {LEAST, -1, 0, 8, MOST};
        for (int n : ns) {
            refused(45, "BAD n " + n, BAD, v -> v.seen(n));
            refused(46, "BAD n " + n, BAD, v -> v.at(n, 0));
        }
        refused(46, "BAD: also a DAY not below n", BAD, v -> v.at(3, 3));
        refused(46, "BAD: a DAY below 0", BAD, v -> v.at(3, -1));
        int[][] last = {{-1, 0}, {256, 0}, {LEAST, 1}, {MOST, 1}, {1, -1}, {1, 2}};
        for (int[] a : last) refused(47, "BAD", BAD, v -> v.last(a[0], a[1]));
    }

    private static void plans() {
        int[][] choice = {{-1, 0, 0}, {1000, 0, 0}, {0, -1, 0}, {0, 100, 0}, {0, 0, -1}, {0, 0, 256}, {0, 0, MOST}};
        for (int[] a : choice) refused(49, "BAD: also AHEAD with bits above 255", BAD, v -> v.choice(a[0], a[1], a[2]));
        int[][] funds = {{-1, 0}, {10000, 0}, {0, -1}, {0, 100}, {LEAST, 0}, {0, MOST}};
        for (int[] a : funds) {
            refused(50, "BAD", BAD, v -> v.plan(a[0], a[1], 9));
            refused(50, "BAD ahead of SPENT", BAD, v -> v.plan(a[0], a[1], 1));
            refused(51, "BAD: fund, income", BAD, v -> v.planned(a[0], a[1], 0));
        }
        int[] tries = {LEAST, -1, 0, 20001, MOST};
        for (int t : tries) refused(50, "BAD TRIES " + t, BAD, v -> v.plan(9, 9, t));
        refused(50, "SPENT", SPENT, v -> v.plan(99, 0, 3));
        refused(50, "NO: there is none", NO, v -> v.plan(0, 0, 2));
        refused(50, "SPENT ahead of NO", SPENT, v -> v.plan(0, 0, 1));
        for (int i : BELOW) refused(51, "BAD: i below 0", BAD, v -> v.planned(99, 0, i));
        for (int i : BELOW) refused(51, "BAD ahead of NO", BAD, v -> v.planned(0, 0, i));
        refused(51, "NO", NO, v -> v.planned(0, 0, 0));
        refused(51, "NO ahead of NONE", NO, v -> v.planned(0, 0, 2));
        refused(51, "NONE: there are not so many", NONE, v -> v.planned(99, 0, 2));
        refused(51, "NONE: there are not so many", NONE, v -> v.planned(99, 0, MOST));
    }

    private static void rowsAndImages() {
        int[] whats = {LEAST, -1, 15, MOST};
        for (int what : whats) refused(56, "BAD what " + what, BAD, v -> v.count(what));
        refused(41, "How many there are in ROUND (asking changes nothing)", 1, v -> v.round());
        refused(48, "THE LEAST set of PITS (asking changes nothing)", 1, v -> v.least());
        refused(28, "BESIDE (asking changes nothing)", 0, v -> v.beside(60, 1));
    }

    /** Numbers and bytes themselves, not only how many, and the IMAGE, too, are as they were ahead of all refused calls. */
    private static void tapeAndNumbersStay() {
        Due.says(52, "changes nothing: the numbers that wait");
        Due.due("1, 4 are the first of 1, 4, 0, 8: one is missing", x.check(0, 0, 5), 3);
        Due.says(29, "changes nothing: the tape");
        Due.due("coin 77", x.text(0), 2);
        Due.due("what it gives", x.rules(3, 0, 0, 0), 77);
        Due.says(55, "changes nothing: THE IMAGE");
        Due.due("its DAY", x.back(), 14);
        Due.due("its TEXTS", x.count(6), 2);
        TokenValley first = x;
        String now = Seen.kept(first);
        settle();
        x.back();
        Due.due("as that of a twin", Seen.kept(x).equals(now) ? 1 : 0, 1);
    }

    private static void fullOfAll() {
        settle();
        while (x.count(0) < 6) x.shop(1, 9, 9, 9);
        while (x.count(6) < 12) Due.text(x, "stop 9", 0);
        while (x.count(7) < 16) x.breach(0, 0, 0);
        while (x.count(8) < 8) x.choice(1, 1, 0);
        while (x.count(9) < 60) x.tell(9);
        while (x.count(10) < 96) x.feed(9, 9, 9);
        while (x.count(3) < 60) x.fine(0, 1, 1);
        before = Seen.all(x);
        refused(4, "FULL", FULL, v -> v.shop(0, 5, 5, 0));
        refused(4, "BAD ahead of FULL", BAD, v -> v.shop(0, 5, 5, 1));
        refused(7, "FULL (of MEN, or of DUES)", FULL, v -> v.man(0, 1, 1));
        refused(7, "BAD ahead of FULL", BAD, v -> v.man(0, 1, 0));
        refused(14, "FULL", FULL, v -> v.draw(0, 1, 0));
        refused(14, "FULL", FULL, v -> v.draw(1, 1, 1));
        refused(15, "FULL", FULL, v -> v.strike(0, 1));
        refused(16, "FULL", FULL, v -> v.fine(0, 1, 1));
        refused(17, "FULL", FULL, v -> v.stop(0, 1, 1));
        refused(14, "NO ahead of FULL", NO, v -> v.draw(2, 1, 0));
        refused(15, "NO ahead of FULL", NO, v -> v.strike(2, 1));
        refused(16, "NO ahead of FULL", NO, v -> v.fine(2, 1, 1));
        refused(17, "NO ahead of FULL", NO, v -> v.stop(2, 1, 1));
        refused(14, "BAD ahead of NO and FULL", BAD, v -> v.draw(2, 1, 2));
        refused(15, "BAD ahead of NO and FULL", BAD, v -> v.strike(2, 0));
        refused(16, "BAD ahead of FULL", BAD, v -> v.fine(0, 1, 10));
        refused(17, "BAD ahead of FULL", BAD, v -> v.stop(0, 1000, 1));
        refused(29, "FULL: it would have more than 96", FULL, v -> v.feed(1, 2, 3));
        refused(44, "FULL", FULL, v -> v.breach(0, 0, 0));
        refused(44, "BAD ahead of FULL", BAD, v -> v.breach(4, 0, 0));
        refused(49, "FULL", FULL, v -> v.choice(1, 1, 1));
        refused(49, "BAD ahead of FULL", BAD, v -> v.choice(1, 1, 256));
        refused(50, "SPENT", SPENT, v -> v.plan(999, 0, 20000));
        refused(51, "SPENT", SPENT, v -> v.planned(999, 0, 0));
        refused(51, "SPENT ahead of NONE", SPENT, v -> v.planned(999, 0, 8));
        refused(51, "BAD ahead of SPENT", BAD, v -> v.planned(999, 0, -1));
        refused(52, "FULL: 60 wait", FULL, v -> v.tell(1));
        fullOfMen();
    }

    private static void fullOfMen() {
        settle();
        while (x.count(1) < 12) x.man(0, 1, 1);
        before = Seen.all(x);
        refused(7, "FULL (of MEN", FULL, v -> v.man(0, 1, 1));
        refused(7, "BAD ahead of FULL", BAD, v -> v.man(-1, 1, 1));
        settle();
        while (x.count(3) < 59) x.fine(0, 1, 1);
        before = Seen.all(x);
        refused(7, "FULL (of MEN, or of DUES): one place is left", FULL, v -> v.man(0, 1, 1));
        x = new TokenValley();
        before = Seen.all(x);
        refused(55, "NO: there is none", NO, v -> v.back());
        refused(27, "BAD; NONE: nobody", BAD, v -> v.bound(0, 1, 1));
        refused(48, "NONE", NONE, v -> v.least());
    }

    private static void atTheLastDay() {
        settle();
        while (x.count(11) <= 6999 - 60) x.run(60);
        x.run(6990 - x.count(11));
        before = Seen.all(x);
        int[] runs = {10, 11, 60};
        for (int n : runs) {
            refused(13, "FULL: it would be above 6999", FULL, v -> v.run(n));
            refused(28, "FULL: beyond DAY 6999", FULL, v -> v.beside(n, 0));
        }
        refused(13, "BAD ahead of FULL", BAD, v -> v.run(61));
        refused(28, "BAD ahead of FULL", BAD, v -> v.beside(61, 0));
        refused(28, "BAD ahead of FULL", BAD, v -> v.beside(60, 3));
        Due.due("9 more", x.run(9), 6999);
    }

    /** The two calls that use something up, whatever they answer, and change nothing else. */
    private static void usedUp() {
        settle();
        while (x.count(6) < 12) Due.text(x, "stop 9", 0);
        String kept = Seen.kept(x);
        String[] tapes = {"due 1", "due", "due 1", "due", "due", "due 1"};
        int[] days = {-1, -1, 7000, MOST, 0, 0};
        int[] want = {BAD, BAD, BAD, BAD, -103, FULL};
        for (int i = 0; i < want.length; i++) {
            Due.says(31, "BAD (asked first; THE TAPE is used up, too); -100 less the place of its FAULT; FULL");
            Due.tape(x, tapes[i]);
            Due.due("text", x.text(days[i]), want[i]);
            Due.due("THE TAPE", x.count(10), 0);
            Due.due("nothing else changed", Seen.kept(x).equals(kept) ? 1 : 0, 1);
        }
        int[][] checks = {{2, 0, 0, BAD}, {-1, 0, 0, BAD}, {0, -1, 0, BAD}, {0, 10000, 0, BAD}, {0, 0, -1, BAD}, {0, 0, 100, BAD}, {0, 0, 0, NO},
            {1, 0, 0, BAD}, {1, 29, 0, BAD}, {0, 0, 5, 1}, {1, 1, 0, 1}};
        for (int[] c : checks) {
            Due.says(53, "The numbers that wait (none do then, whatever is answered)");
            x.tell(-7);
            Due.due("check", x.check(c[0], c[1], c[2]), c[3]);
            Due.due("numbers that wait", x.count(9), 0);
            Due.due("nothing else changed", Seen.kept(x).equals(kept) ? 1 : 0, 1);
        }
        while (x.count(8) < 8) x.choice(1, 1, 0);
        Due.says(53, "BAD; SPENT, NO (0), NO (1: there is no IMAGE)");
        Due.due("SPENT", x.check(0, 9999, 0), SPENT);
        Due.due("BAD ahead of SPENT", x.check(0, 10000, 0), BAD);
        x = new TokenValley();
        Due.due("no IMAGE", x.check(1, 1, 0), NO);
        Due.due("BAD ahead of that", x.check(1, 0, 0), BAD);
    }
}
