/** The sentences of the document's term 4 that name an edge, in its order; each with the promise that shows it. */
public final class TermsOfDuesTest {
    private static final int BAD = Due.BAD, NO = Due.NO, NONE = Due.NONE;

    public static void main(String[] args) {
        draws();
        checks();
        discount();
        takenIn();
        openTillPay();
        wrongFines();
        givenBack();
        worth();
        worthOfGone();
        loaves();
        scale();
        bound();
        boundLong();
        beside();
        besideInTowns();
        besideGone();
        Due.end();
    }

    private static void due(String call, long got, long want) {
        Due.due(call, got, want);
    }

    private static TokenValley fed(int men) {
        TokenValley x = new TokenValley();
        for (int i = 0; i < men; i++) {
            x.man(0, 1, 1);
            x.be(i, 3, 9999);
        }
        return x;
    }

    private static void draws() {
        Due.says(14, "a MAN gets AMOUNT in CHECKS (SORT 0), or COIN (SORT 1), now");
        TokenValley x = fed(1);
        x.draw(0, 1, 0);
        Due.row("COIN, CHECKS", new int[] {x.is(0, 4), x.is(0, 5)}, 0, 1);
        x.draw(0, 999, 1);
        Due.row("COIN, CHECKS", new int[] {x.is(0, 4), x.is(0, 5)}, 999, 1);
        due("AMOUNT 0", x.draw(0, 0, 0), BAD);
        due("AMOUNT 1000", x.draw(0, 1000, 1), BAD);
        due("AMOUNT below 0", x.draw(0, -1, 1), BAD);
        due("SORT 2", x.draw(0, 1, 2), BAD);
        due("SORT -1", x.draw(0, 1, -1), BAD);
        Due.row("as they were", new int[] {x.is(0, 4), x.is(0, 5)}, 999, 1);
        due("more than is EARNED may be drawn", x.draw(0, 999, 0), 4);
    }

    private static void checks() {
        Due.says(15, "A CHECK (a token) likewise is struck: it is out, and is held by a MAN");
        TokenValley x = fed(2);
        due("AMOUNT 0", x.strike(1, 0), BAD);
        due("AMOUNT 1000", x.strike(1, 1000), BAD);
        due("MAN 2", x.strike(2, 1), BAD);
        due("none is out", x.count(5), 0);
        int least = x.strike(1, 1), most = x.strike(1, 999);
        due("two are out", x.count(5), 2);
        due("held by", x.told(least, 6), 1);
        due("held by", x.told(most, 6), 1);
        due("AMOUNT", x.told(most, 2), 999);
        due("no CHECKS for him yet", x.is(1, 5), 0);
    }

    private static void discount() {
        Due.says(19, "AMOUNT less DISCOUNT hundredths of it (these cut) in COIN goes the other way");
        TokenValley x = fed(2);
        int[][] rows = {{1, 0, 1}, {1, 99, 1}, {99, 1, 99}, {100, 1, 99}, {101, 1, 100}, {199, 50, 100}, {999, 99, 10}, {999, 0, 999}, {55, 33, 37}};
        for (int[] r : rows) {
            int check = x.strike(0, r[0]);
            x.be(0, 4, 0);
            x.be(1, 4, r[2] - 1);
            due("a penny too few", x.sell(check, 1, r[1]), NO);
            due("still held", x.told(check, 6), 0);
            x.be(1, 4, r[2]);
            due(r[0] + " at " + r[1], x.sell(check, 1, r[1]), r[2]);
            due("who pays", x.is(1, 4), 0);
            due("who gets", x.is(0, 4), r[2]);
            due("who holds", x.told(check, 6), 1);
        }
        Due.says(19, "NO: it is not out, the MAN holds it, or has not so much COIN");
        int check = x.strike(0, 5);
        x.be(0, 4, 99);
        due("the MAN holds it", x.sell(check, 0, 0), NO);
        x.melt(check);
        x.be(1, 4, 99);
        due("it is not out", x.sell(check, 1, 0), NO);
        due("nor for him who held it", x.sell(check, 0, 0), NO);
        due("DISCOUNT 100", x.sell(check, 1, 100), BAD);
        due("DISCOUNT -1", x.sell(check, 1, -1), BAD);
    }

    private static void takenIn() {
        Due.says(20, "or be taken in: its holder's CHECKS have AMOUNT more, then it is melted");
        TokenValley x = fed(3);
        int check = x.strike(0, 40);
        x.be(1, 4, 99);
        x.be(2, 4, 99);
        x.sell(check, 1, 10);
        x.sell(check, 2, 50);
        x.be(2, 5, 2);
        due("what the last one has", x.melt(check), 42);
        checksAre(x, 0, 0, 42);
        due("no holder", x.told(check, 6), NONE);
        due("none is out", x.count(5), 0);
        due("not twice", x.melt(check), NO);
        checksAre(x, 0, 0, 42);
    }

    /** What each of three has in CHECKS. */
    private static void checksAre(TokenValley x, int... want) {
        Due.row("CHECKS", new int[] {x.is(0, 5), x.is(1, 5), x.is(2, 5)}, want);
    }

    private static void openTillPay() {
        Due.says(21, "It was drawn by the MAN whose it is, and is OPEN till PAY, whoever holds it");
        TokenValley x = fed(2);
        int sold = x.strike(0, 30), melted = x.strike(0, 20);
        x.be(1, 4, 30);
        x.sell(sold, 1, 0);
        x.melt(melted);
        x.run(6);
        Due.row("OPEN", new int[] {x.told(sold, 5), x.told(melted, 5)}, 0, 0);
        Due.row("whose they are", new int[] {x.told(sold, 1), x.told(melted, 1)}, 0, 0);
        x.run(1);
        Due.row("DONE", new int[] {x.told(sold, 5), x.told(melted, 5)}, 1, 1);
        due("he pays", x.is(0, 4), 30 + 140 - 50);
        due("not the holder", x.is(1, 4), 140);
        due("it is out still", x.told(sold, 6), 1);
        due("and is taken in", x.melt(sold), 30);
    }

    private static void wrongFines() {
        Due.says(23, "WRONG FINES: those that are DONE, with an AMOUNT above 0, for which fine is 0 now");
        TokenValley x = fed(2);
        x.fine(0, 30, 3);
        x.fine(0, 110, 4);
        x.fine(0, 50, 5);
        x.let(x.fine(0, 7, 3));
        x.stop(1, 5, 3);
        x.draw(1, 5, 0);
        Due.text(x, "fine 0", 0);
        due("OPEN ones are not", x.wrong(0), 0);
        x.run(7);
        // 30, 110, 0 were taken
        due("30 and 110; not what took nothing, not what was let go", x.wrong(0), 140);
        due("STOPS and DRAWS are none", x.wrong(1), 0);
        Due.text(x, "fine b=3", 0);
        due("of SORT 3 they are right now", x.wrong(0), 110);
        Due.text(x, "fine a-110", 0);
        due("below 0 is not 0", x.wrong(0), 110);
        Due.text(x, "fine a<110", 0);
        due("by AMOUNT", x.wrong(0), 110);
        Due.text(x, "fine 1", 0);
        due("none", x.wrong(0), 0);
        due("MAN 2", x.wrong(2), BAD);
        due("MAN -1", x.wrong(-1), BAD);
    }

    private static void givenBack() {
        Due.says(24, "They may be given BACK: COIN has AMOUNT more");
        TokenValley x = fed(1);
        due("none", x.give(0), NO);
        x.fine(0, 30, 3);
        Due.text(x, "fine 0", 0);
        due("OPEN ones are not", x.give(0), NO);
        x.run(7);
        due("COIN of PAY", x.is(0, 4), 110);
        due("given", x.give(0), 30);
        due("COIN", x.is(0, 4), 140);
        due("BACK", x.told(2, 5), 2);
        due("AMOUNT stays", x.told(2, 2), 30);
        due("not twice", x.give(0), NO);
        x.fine(0, 40, 0);
        x.run(7);
        x.be(0, 4, 99970);
        due("given", x.give(0), 40);
        due("99999 at most", x.is(0, 4), 99999);
        due("MAN 1", x.give(1), BAD);
        x = fed(1);
        x.fine(0, 140, 0);
        x.fine(0, 5, 0);
        Due.text(x, "fine 0", 0);
        x.run(7);
        due("what was taken is given", x.give(0), 140);
        Due.row("what took nothing stays DONE", new int[] {x.told(2, 5), x.told(3, 5), x.told(3, 2)}, 2, 1, 0);
    }

    private static void worth() {
        Due.says(25, "WORTH: of a MAN's EARNED now, as if it were PAY: LEFT, COIN, CHECKS, what DRAWS and CHECKS, FINES, STOPS, DEBT take");
        TokenValley x = fed(1);
        worthIs(x, 0, 0, 0, 0, 0, 0, 0);
        x.draw(0, 15, 0);
        x.strike(0, 10);
        x.fine(0, 12, 0);
        x.stop(0, 20, 0);
        x.stop(0, 20, 0);
        Due.text(x, "stop 30", 0);
        Due.text(x, "coin 50", 0);
        int[][] byDays = {{0, 0, 0, 20, 0, 0, 0}, {0, 0, 0, 25, 12, 3, 0}, {0, 0, 0, 25, 12, 23, 0}, {13, 6, 7, 25, 12, 30, 0}, {33, 16, 17, 25, 12, 30, 0}};
        for (int[] want : byDays) {
            x.run(1);
            worthIs(x, want);
        }
        due("nothing is taken", x.is(0, 10), 100);
        due("nothing is DONE", x.count(4), 7);
        due("nothing is STOPPED", x.told(5, 7), 0);
        x = new TokenValley();
        x.shop(0, 9, 99, 0);
        x.man(0, 1, 1);
        x.pit(0, 0, 9);
        x.run(1);
        worthIs(x, 0, 0, 0, 0, 0, 0, 9);
        x.pit(0, 0, 10);
        x.run(1);
        worthIs(x, 1, 1, 0, 0, 0, 0, 18);
        due("OWED as it was", x.is(0, 11), 18);
    }

    private static void worthIs(TokenValley x, int... want) {
        int[] row = new int[7];
        for (int what = 0; what < 7; what++) row[what] = x.worth(0, what);
        Due.row("WORTH", row, want);
    }

    private static void worthOfGone() {
        Due.says(25, "WORTH: of a MAN's EARNED now");
        TokenValley x = new TokenValley();
        x.man(0, 1, 1);
        x.run(9);
        due("GONE", x.is(0, 9), 1);
        worthIs(x, 40, 40, 0, 0, 0, 0, 0);
        due("what -1", x.worth(0, -1), BAD);
        due("what 9", x.worth(0, 9), BAD);
        due("MAN 1", x.worth(1, 0), BAD);
        due("MAN -1", x.worth(-1, 0), BAD);
    }

    private static void loaves() {
        Due.says(25, "loaves for LEFT in the cheapest COMPANY shop (0 without), and in a TOWN, ROAD first (the most of all TOWNS; 0 without)");
        TokenValley x = fed(1);
        x.run(2);
        Due.row("without", new int[] {x.worth(0, 7), x.worth(0, 8)}, 0, 0);
        x.shop(0, 41, 0, 0);
        due("LEFT 40, PRICE 41", x.worth(0, 7), 0);
        x.shop(0, 40, 0, 0);
        due("PRICE 40", x.worth(0, 7), 1);
        x.shop(0, 7, 0, 0);
        due("the cheapest: PRICE 7, cut", x.worth(0, 7), 5);
        due("a COMPANY shop is no TOWN", x.worth(0, 8), 0);
        x.shop(1, 1, 0, 41);
        due("ROAD above LEFT", x.worth(0, 8), 0);
        x.shop(1, 13, 0, 1);
        due("39 by 13", x.worth(0, 8), 3);
        x.shop(1, 9, 0, 22);
        due("18 by 9: the most counts, not the cheapest", x.worth(0, 8), 3);
        due("a TOWN is no COMPANY shop", x.worth(0, 7), 5);
        Due.says(25, "STOCKS do not matter");
        for (int i = 0; i < 6; i++) x.shelf(i, 2, 99999);
        Due.row("with STOCKS", new int[] {x.worth(0, 7), x.worth(0, 8)}, 5, 3);
    }

    private static void scale() {
        Due.says(26, "TOLD times 100 by TUBS times high, by TUBS times low");
        TokenValley x = fed(1);
        due("no TUBS", x.prove(0, 1, 99, 0), NONE);
        due("no TUBS in a PIT without MEN", x.prove(7, 1, 99, 1), NONE);
        x.be(0, 1, 0);
        x.run(1);
        due("no TUBS by SKILL 0", x.prove(0, 1, 99, 1), NONE);
        x.be(0, 1, 3);
        x.pit(0, 1, 70);
        x.run(1);
        // 3 TUBS, TOLD 42
        due("least of 14 .. 19", x.prove(0, 14, 19, 0), 4200 / 57);
        due("most of 14 .. 19", x.prove(0, 14, 19, 1), 100);
        due("low is high", x.prove(0, 20, 20, 0), 70);
        due("low 1", x.prove(0, 1, 99, 1), 1400);
        due("high 99", x.prove(0, 1, 99, 0), 14);
        due("low 99", x.prove(0, 99, 99, 1), 14);
        due("low 0", x.prove(0, 0, 20, 0), BAD);
        due("low 100", x.prove(0, 100, 100, 0), BAD);
        due("high below low", x.prove(0, 20, 19, 0), BAD);
        due("high 100", x.prove(0, 20, 100, 0), BAD);
        x.pit(0, 1, 1);
        x.pit(0, 0, 1);
        x.man(1, 1, 1);
        x.pit(1, 0, 99);
        x.pit(1, 1, 1);
        x.run(1);
        due("TOLD 0", x.prove(1, 1, 1, 0), 0);
        due("TOLD 42 of 6 TUBS", x.prove(0, 7, 7, 1), 100);
    }

    private static void bound() {
        Due.says(27, "the first WEEK (from 1 on) behind which nothing is OWED; NONE: not within 1000, or without such a shop");
        TokenValley x = fed(1);
        due("without a SHOP", x.bound(0, 9999, 1), NONE);
        x.shop(1, 1, 0, 0);
        due("with a TOWN alone", x.bound(0, 9999, 1), NONE);
        x.shop(0, 99, 0, 0);
        x.shop(0, 1, 0, 0);
        x.be(0, 2, 9);
        // 99 * 9 * 7 is 6237 a WEEK: the first COMPANY shop counts, not the cheapest
        due("6237", x.bound(0, 6237, 1), 1);
        due("6236", x.bound(0, 6236, 1), NONE);
        due("9999", x.bound(0, 9999, 1), 1);
        due("9999 behind each 2", x.bound(0, 9999, 2), NONE);
        due("0", x.bound(0, 0, 1), NONE);
        x.shelf(1, 1, 1);
        x.be(0, 2, 1);
        due("7 * 99 behind each 99", x.bound(0, 693, 99), 99);
        due("a penny less", x.bound(0, 692, 99), NONE);
        due("pence -1", x.bound(0, -1, 1), BAD);
        due("pence 10000", x.bound(0, 10000, 1), BAD);
        due("WEEKS 0", x.bound(0, 1, 0), BAD);
        due("WEEKS 100", x.bound(0, 1, 100), BAD);
        due("MAN 1", x.bound(1, 1, 1), BAD);
        due("MAN -1", x.bound(-1, 1, 1), BAD);
    }

    private static void boundLong() {
        Due.says(27, "NONE: not within 1000");
        TokenValley x = new TokenValley();
        x.shop(0, 1, 9999, 0);
        x.rule(0, 9999);
        x.man(0, 0, 9);
        x.run(60);
        x.run(51);
        x.be(0, 2, 1);
        x.run(1);
        due("OWED", x.is(0, 11), 1000);
        due("7 more, 8 less: WEEK 1000", x.bound(0, 8, 1), 1000);
        due("7 more, 7 less", x.bound(0, 7, 1), NONE);
        x.run(1);
        due("OWED", x.is(0, 11), 1001);
        due("one WEEK too late", x.bound(0, 8, 1), NONE);
        due("9 less: 501 WEEKS", x.bound(0, 9, 1), 501);
        due("0 at least", x.bound(0, 9999, 1), 1);
        due("nothing changed", x.is(0, 11), 1001);
        due("behind each 10: 70 more, 9999 less", x.bound(0, 9999, 10), 10);
        due("behind each 10: 70 more, 121 less: 20 times", x.bound(0, 121, 10), 200);
    }

    private static void beside() {
        Due.says(28, "how another valley would stand behind n DAYS, in which coin is 100 always, less how this one would");
        TokenValley x = new TokenValley();
        x.shop(0, 2, 9999, 0);
        x.man(0, 1, 1);
        x.pit(0, 0, 4);
        Due.text(x, "coin 0", 0);
        // DAYS 0 to 6: 14 OWED, 28 EARNED, 14 LEFT: CHECKS here, COIN there (no TOWN is known)
        due("till DAY 7 the same", x.beside(7, 0), 0);
        for (int n = 8; n <= 13; n++) due("behind " + n + " DAYS", x.beside(n, 0), 2 * (n - 7));
        due("behind 14 DAYS both have paid", x.beside(14, 0), 0);
        due("BREAD", x.beside(13, 1), 0);
        due("GONE", x.beside(60, 2), 0);
        due("60 DAYS", x.beside(60, 0), 2 * 4);
        due("no DAY went by", x.count(11), 0);
        due("nothing is OWED", x.is(0, 11), 0);
        due("STOCK", x.sells(0, 2), 9999);
        due("n 0", x.beside(0, 0), BAD);
        due("n 61", x.beside(61, 0), BAD);
        due("what 3", x.beside(1, 3), BAD);
        due("what -1", x.beside(1, -1), BAD);
        Due.text(x, "coin 100", 0);
        due("coin is 100 here, too", x.beside(13, 0), 0);
        Due.says(28, "FULL: beyond DAY 6999");
        TokenValley y = new TokenValley();
        for (int i = 0; i < 116; i++) y.run(60);
        due("to DAY 6999", y.beside(39, 0), 0);
        due("to DAY 7000", y.beside(40, 0), Due.FULL);
        due("BAD first", y.beside(61, 0), BAD);
        due("BAD first", y.beside(60, 3), BAD);
    }

    /** MAN 0 has bread till DAY 7, a LIMIT of 100 at a COMPANY shop for 10, and CHECKS alone here. */
    private static TokenValley besideATown(int weight) {
        TokenValley x = new TokenValley();
        x.shop(0, 10, 99, 0);
        x.man(0, 1, 1);
        x.pit(0, 0, weight);
        x.be(0, 3, 7);
        Due.text(x, "coin 0", 0);
        return x;
    }

    private static void besideInTowns() {
        Due.says(28, "in which coin is 100 always");
        TokenValley x = besideATown(1);
        x.shop(1, 2, 99, 3);
        x.hear(0, 1);
        // 7 pence: there one loaf and ROAD on DAY 7, then no more; here all on DEBT
        Due.row("behind 8, 9, 10 DAYS", new int[] {x.beside(8, 0), x.beside(9, 0), x.beside(10, 0)}, -10, -10, -10);
        x = besideATown(1);
        x.shop(1, 2, 99, 0);
        x.shop(1, 1, 99, 0);
        x.hear(0, 1);
        x.hear(0, 2);
        x.shelf(2, 1, 50);
        due("there it goes to the one that it KNOWS as cheaper, in vain", x.beside(8, 0), 0);
        x = besideATown(20);
        x.shop(1, 99, 99, 42);
        x.hear(0, 1);
        due("140 pence are not enough for 141; here CHECKS are", x.beside(8, 0), 10);
        x = besideATown(20);
        x.shop(1, 99, 99, 41);
        x.hear(0, 1);
        due("but for 140", x.beside(8, 0), 0);
    }

    private static void besideGone() {
        Due.says(28, "all OWED, all BREAD, how many GONE");
        TokenValley x = new TokenValley();
        x.shop(1, 1, 9999, 0);
        for (int i = 0; i < 3; i++) x.man(i, 1, 1);
        x.hear(0, 0);
        x.hear(1, 0);
        x.be(2, 3, 50);
        Due.text(x, "coin 0", 0);
        // two know a TOWN, have HUNGER 7 on DAY 7 and COIN there alone: here both are GONE on DAY 8
        due("none behind 8", x.beside(8, 2), 0);
        due("two fewer behind 9", x.beside(9, 2), -2);
        due("two fewer behind 50", x.beside(50, 2), -2);
        due("BREAD of all", x.beside(9, 1), 0);
        due("as on DAY 0", x.is(2, 3), 50);
    }
}
