/** The sentences of the document's terms 1 and 3 that name an edge, in its order; each with the promise that shows it. */
public final class TermsOfValleyTest {
    private static final int BAD = Due.BAD, FULL = Due.FULL, NONE = Due.NONE;

    public static void main(String[] args) {
        newObject();
        days();
        pits();
        shops();
        men();
        aboveIsLost();
        hungerAndBought();
        dues();
        limit();
        digging();
        lackingSome();
        byChecks();
        townKnown();
        townLets();
        onDebt();
        eating();
        knowing();
        news();
        newsAllAtOnce();
        endOfWeek();
        keep();
        payOfDraws();
        payOfFines();
        payOfStops();
        payOfDebt();
        payOfCoin();
        Due.end();
    }

    private static void due(String call, long got, long want) {
        Due.due(call, got, want);
    }

    /** A man of PIT 0 with bread for all days that a test needs. */
    private static TokenValley fed(int skill) {
        TokenValley x = new TokenValley();
        x.man(0, skill, 1);
        x.be(0, 3, 9999);
        return x;
    }

    private static void newObject() {
        Due.says(1, "As told; no SHOPS, nobody.");
        TokenValley x = new TokenValley();
        for (int what = 0; what <= 14; what++) due("count " + what, x.count(what), 0);
        due("SHOP 0", x.sells(0, 0), BAD);
        due("MAN 0", x.is(0, 0), BAD);
        due("DUE 0", x.told(0, 0), BAD);
        due("TEXT 0", x.of(0, 0), BAD);
        due("no IMAGE", x.back(), Due.NO);
        TokenValley y = new TokenValley();
        x.man(0, 1, 1);
        x.pit(0, 0, 7);
        due("another object has nobody", y.count(1), 0);
        due("nor another WEIGHT", y.dug(0, 0), 20);
    }

    private static void days() {
        Due.says(13, "the one that is open is 0 at first (6999 at most)");
        TokenValley x = new TokenValley();
        due("the DAY at first", x.count(11), 0);
        due("its WEEK", x.count(12), 0);
        for (int i = 0; i < 116; i++) x.run(60);
        due("one above 6999", x.run(40), FULL);
        due("it stays", x.count(11), 6960);
        due("6999", x.run(39), 6999);
        due("7000", x.run(1), FULL);
        due("sixty more", x.run(60), FULL);
        due("still 6999", x.count(11), 6999);
        Due.says(56, "WEEK: DAY / 7");
        due("of the last DAY", x.count(12), 999);
        x = new TokenValley();
        for (int day = 1; day <= 15; day++) {
            due("the DAY", x.run(1), day);
            due("the WEEK of DAY " + day, x.count(12), day < 7 ? 0 : day < 14 ? 1 : 2);
        }
        Due.says(13, "a DAY whose rest by 7 is 6 ends its WEEK");
        x = fed(1);
        x.run(6);
        due("DAY 5 does not", x.is(0, 10), 120);
        x.run(1);
        due("DAY 6 does", x.is(0, 10), 0);
        x.run(1);
        due("DAY 7 does not", x.is(0, 10), 20);
        x.run(5);
        due("DAY 12 does not", x.is(0, 10), 120);
        x.run(1);
        due("DAY 13 does", x.is(0, 10), 0);
    }

    private static void pits() {
        Due.says(2, "PITS 0 .. 7: the WEIGHT of a tub (1 .. 99; 20 at first) and a SCALE (1 .. 150; 100 at first), in hundredths");
        TokenValley x = new TokenValley();
        int[] pits = {Integer.MIN_VALUE, -1, 8, Integer.MAX_VALUE};
        for (int pit : pits) {
            for (int what = 0; what < 2; what++) due("no such PIT", x.pit(pit, what, 1), BAD);
            for (int what = 0; what < 6; what++) due("none to look at", x.dug(pit, what), BAD);
        }
        for (int pit = 0; pit < 8; pit++) {
            due("WEIGHT at first", x.pit(pit, 0, 1), 20);
            due("WEIGHT 0", x.pit(pit, 0, 0), BAD);
            due("WEIGHT 1", x.pit(pit, 0, 99), 1);
            due("WEIGHT 100", x.pit(pit, 0, 100), BAD);
            due("WEIGHT 99", x.dug(pit, 0), 99);
            due("SCALE at first", x.pit(pit, 1, 1), 100);
            due("SCALE 0", x.pit(pit, 1, 0), BAD);
            due("SCALE 1", x.pit(pit, 1, 150), 1);
            due("SCALE 151", x.pit(pit, 1, 151), BAD);
            due("SCALE 150", x.dug(pit, 1), 150);
        }
    }

    private static void shops() {
        Due.says(4, "SHOPS, 6 at most, numbered from 0, of a SORT: 0 COMPANY, 1 TOWN");
        TokenValley x = new TokenValley();
        due("SORT -1", x.shop(-1, 1, 1, 0), BAD);
        due("SORT 2", x.shop(2, 1, 1, 0), BAD);
        for (int i = 0; i < 6; i++) due("number", x.shop(i & 1, 1, 1, 0), i);
        due("the seventh", x.shop(0, 1, 1, 0), FULL);
        for (int i = 0; i < 6; i++) due("SORT", x.sells(i, 0), i & 1);
        Due.says(4, "a PRICE of a loaf 1 .. 99, a STOCK of loaves 0 .. 99999, a ROAD 0 .. 99 pence (of COMPANY 0)");
        x = new TokenValley();
        for (int sort = 0; sort < 2; sort++) {
            due("PRICE 0", x.shop(sort, 0, 1, 0), BAD);
            due("PRICE 100", x.shop(sort, 100, 1, 0), BAD);
            due("STOCK -1", x.shop(sort, 1, -1, 0), BAD);
            due("STOCK 100000", x.shop(sort, 1, 100000, 0), BAD);
            due("ROAD -1", x.shop(sort, 1, 1, -1), BAD);
            due("ROAD 100", x.shop(sort, 1, 1, 100), BAD);
        }
        due("ROAD 1 of COMPANY", x.shop(0, 1, 1, 1), BAD);
        due("ROAD 99 of COMPANY", x.shop(0, 1, 1, 99), BAD);
        due("none came", x.count(0), 0);
        due("all least", x.shop(1, 1, 0, 0), 0);
        due("all most", x.shop(1, 99, 99999, 99), 1);
        due("of COMPANY", x.shop(0, 99, 99999, 0), 2);
        Due.row("least", new int[] {x.sells(0, 1), x.sells(0, 2), x.sells(0, 3)}, 1, 0, 0);
        Due.row("most", new int[] {x.sells(1, 1), x.sells(1, 2), x.sells(1, 3)}, 99, 99999, 99);
    }

    private static void men() {
        Due.says(7, "MEN, 12 at most, numbered from 0: a PIT, a SKILL 0 .. 9 (tubs a DAY), a NEED 1 .. 9 (loaves a DAY)");
        TokenValley x = new TokenValley();
        int[][] bad = {{-1, 0, 1}, {8, 0, 1}, {0, -1, 1}, {0, 10, 1}, {0, 0, 0}, {0, 0, 10}, {0, 0, -1}};
        for (int[] b : bad) due("out of its bounds", x.man(b[0], b[1], b[2]), BAD);
        due("nobody came", x.count(1) + x.count(3), 0);
        due("all least", x.man(0, 0, 1), 0);
        due("all most", x.man(7, 9, 9), 1);
        for (int i = 2; i < 12; i++) due("number", x.man(0, 1, 1), i);
        due("the thirteenth", x.man(0, 1, 1), FULL);
        due("no DUES of it", x.count(3), 24);
        x.be(1, 3, 9);
        x.run(1);
        due("SKILL 0 digs no tub, the ten others one each", x.dug(0, 4), 10);
        due("SKILL 9 digs nine", x.dug(7, 4), 9);
        due("NEED 9 eats nine", x.is(1, 3), 0);
        due("and has no HUNGER", x.is(1, 6), 0);
        Due.says(8, "0 at first: pence), HUNGER 0 .. 9 (0), BOUGHT (loaves from COMPANY in this WEEK), SHORT (0), GONE or not");
        x = new TokenValley();
        x.man(3, 4, 5);
        Due.row("at first", all(x, 0), 3, 4, 5, 0, 0, 0, 0, 0, 0, 0, 0, 0, 0, 1);
    }

    private static int[] all(TokenValley x, int man) {
        int[] row = new int[14];
        for (int what = 0; what < 14; what++) row[what] = x.is(man, what);
        return row;
    }

    private static void aboveIsLost() {
        Due.says(14, "what would be above is lost");
        TokenValley x = fed(9);
        x.man(1, 1, 1);
        x.be(0, 4, 99000);
        x.be(0, 5, 99000);
        x.draw(0, 999, 0);
        x.draw(0, 999, 1);
        due("CHECKS 99999", x.is(0, 5), 99999);
        due("COIN 99999", x.is(0, 4), 99999);
        x.draw(0, 1, 0);
        x.draw(0, 1, 1);
        due("CHECKS no more", x.is(0, 5), 99999);
        due("COIN no more", x.is(0, 4), 99999);
        Due.says(19, "what would be above is lost");
        int check = x.strike(0, 500);
        x.be(1, 4, 500);
        due("it is paid", x.sell(check, 1, 0), 500);
        due("by him", x.is(1, 4), 0);
        due("and lost", x.is(0, 4), 99999);
        Due.says(20, "what would be above is lost");
        x.be(1, 5, 99500);
        due("just 99999", x.melt(x.strike(1, 499)), 99999);
        due("500 more", x.melt(check), 99999);
        Due.says(9, "0 .. 99999 each");
        for (int what = 3; what <= 5; what++) {
            due("-1", x.be(1, what, -1), BAD);
            due("100000", x.be(1, what, 100000), BAD);
            x.be(1, what, 0);
            due("0", x.is(1, what), 0);
            due("99999", x.be(1, what, 99999), 0);
            due("it is", x.is(1, what), 99999);
        }
    }

    private static void hungerAndBought() {
        Due.says(13, "HUNGER 0 .. 9 (0)");
        TokenValley x = fed(0);
        x.run(3);
        due("not below 0", x.is(0, 6), 0);
        x.be(0, 3, 0);
        for (int hunger = 1; hunger <= 9; hunger++) {
            x.run(1);
            due("one more", x.is(0, 6), hunger);
            due("GONE", x.is(0, 9), hunger == 9 ? 1 : 0);
        }
        x.run(1);
        due("not above 9", x.is(0, 6), 9);
        Due.says(8, "BOUGHT (loaves from COMPANY in this WEEK)");
        x = new TokenValley();
        x.shop(0, 2, 99, 0);
        x.shop(1, 1, 99, 0);
        x.man(0, 0, 3);
        x.be(0, 5, 2);
        x.be(0, 4, 1);
        x.hear(0, 1);
        x.run(1);
        // one by CHECKS, one by COIN in TOWN, one on DEBT
        due("two of COMPANY", x.is(0, 7), 2);
        due("one of the TOWN", x.sells(1, 2), 98);
        x.run(5);
        due("in six DAYS", x.is(0, 7), 2 + 15);
        x.run(1);
        due("in the next WEEK", x.is(0, 7), 0);
    }

    private static void dues() {
        Due.says(21, "DUES, 60 at most, numbered from 0, of KINDS");
        TokenValley x = fed(1);
        due("as a MAN comes a WAGE", x.told(0, 0), 1);
        due("and a DEBT come, in this order", x.told(1, 0), 6);
        due("number", x.draw(0, 1, 0), 2);
        due("number", x.strike(0, 1), 3);
        due("number", x.fine(0, 1, 0), 4);
        due("number", x.stop(0, 1, 0), 5);
        Due.row("KINDS", new int[] {x.told(2, 0), x.told(3, 0), x.told(4, 0), x.told(5, 0)}, 2, 3, 4, 5);
        for (int i = 6; i < 60; i++) due("number", x.draw(0, 1, 0), i);
        due("DRAW", x.draw(0, 1, 0), FULL);
        due("CHECK", x.strike(0, 1), FULL);
        due("FINE", x.fine(0, 1, 0), FULL);
        due("STOP", x.stop(0, 1, 0), FULL);
        due("a MAN", x.man(0, 0, 1), FULL);
        due("no such DUE", x.told(60, 0), BAD);
        Due.says(16, "a SORT 0 .. 9");
        x = fed(1);
        due("FINE -1", x.fine(0, 1, -1), BAD);
        due("FINE 10", x.fine(0, 1, 10), BAD);
        due("FINE 0", x.told(x.fine(0, 1, 0), 3), 0);
        due("FINE 9", x.told(x.fine(0, 1, 9), 3), 9);
        Due.says(17, "a SORT 0 .. 9");
        due("STOP -1", x.stop(0, 1, -1), BAD);
        due("STOP 10", x.stop(0, 1, 10), BAD);
        due("STOP 0", x.told(x.stop(0, 1, 0), 3), 0);
        due("STOP 9", x.told(x.stop(0, 1, 9), 3), 9);
        Due.says(21, "the DAY on which it was told, and is 0 OPEN, 1 DONE, or 2 BACK");
        due("DAY 0", x.told(2, 4), 0);
        x.run(60);
        int fine = x.fine(0, 1, 0);
        due("DAY 60", x.told(fine, 4), 60);
        due("OPEN", x.told(fine, 5), 0);
        due("DONE", x.told(2, 5), 1);
        x.let(fine);
        due("BACK", x.told(fine, 5), 2);
    }

    private static void limit() {
        Due.says(12, "LIMIT: what a DEBT may be (0 .. 9999; 100 at first)");
        TokenValley x = new TokenValley();
        due("-1", x.rule(0, -1), BAD);
        due("10000", x.rule(0, 10000), BAD);
        due("100 at first", x.rule(0, 9999), 100);
        due("9999", x.rule(0, 0), 9999);
        x.shop(0, 10, 999, 0);
        x.man(0, 0, 1);
        x.run(1);
        due("LIMIT 0: no DEBT", x.is(0, 11), 0);
        x.rule(0, 9);
        x.run(1);
        due("LIMIT 9: no loaf for 10", x.is(0, 11), 0);
        x.rule(0, 10);
        x.run(1);
        due("LIMIT 10: one", x.is(0, 11), 10);
        x.run(1);
        due("and no more", x.is(0, 11), 10);
        x.rule(0, 29);
        x.be(0, 2, 5);
        x.run(1);
        due("LIMIT 29: one more, not two", x.is(0, 11), 20);
        x.rule(0, 30);
        x.run(1);
        due("LIMIT 30: all of it", x.is(0, 11), 30);
    }

    private static void digging() {
        Due.says(13, "SKILL tubs of its PIT's WEIGHT; the TOLD weight is SCALE hundredths of that");
        TokenValley x = fed(1);
        x.pit(0, 0, 1);
        x.pit(0, 1, 99);
        x.run(1);
        due("99 hundredths of 1 are cut", x.is(0, 10), 0);
        due("DUG", x.dug(0, 2), 1);
        due("TOLD", x.dug(0, 3), 0);
        due("TUBS", x.dug(0, 4), 1);
        due("SHORT", x.is(0, 8), 1);
        x.be(0, 1, 9);
        x.pit(0, 0, 99);
        x.pit(0, 1, 150);
        x.run(1);
        due("150 hundredths of 891 are cut", x.is(0, 10), 1336);
        due("SHORT is less then", x.is(0, 8), 1 + 891 - 1336);
        x.pit(0, 1, 1);
        x.run(1);
        due("1 hundredth of 891", x.is(0, 10), 1336 + 8);
        Due.says(13, "The PIT's DUG, TOLD and TUBS have as much more (of all MEN, from the beginning)");
        Due.row("of three DAYS", new int[] {x.dug(0, 2), x.dug(0, 3), x.dug(0, 4)}, 1783, 1344, 19);
        x.be(0, 0, 7);
        x.run(1);
        Due.row("no more in its old PIT", new int[] {x.dug(0, 2), x.dug(0, 3), x.dug(0, 4)}, 1783, 1344, 19);
        Due.row("but in the new one", new int[] {x.dug(7, 2), x.dug(7, 3), x.dug(7, 4)}, 180, 180, 9);
        Due.says(13, "its WAGE has wage of the TOLD weight more (EARNED: its AMOUNT); SHORT has wage of the true one less that more");
        x = fed(9);
        x.pit(0, 1, 50);
        Due.text(x, "wage t*100", 0);
        x.run(1);
        // 180 true, 90 told: 9000 and 18000, which is held at 9999
        due("wage is held above", x.is(0, 8), 999);
        due("EARNED", x.is(0, 10), 9000);
        Due.text(x, "wage t-100", 1);
        x.run(1);
        due("wage is held at 0", x.is(0, 10), 9000);
        due("SHORT", x.is(0, 8), 999 + 80);
        due("of a DUE", x.as(0, 1), 9000);
    }

    private static void lackingSome() {
        Due.says(13, "as it has fewer than NEED of BREAD it buys first, as many loaves as it lacks, as long as it lacks some");
        TokenValley x = new TokenValley();
        x.shop(0, 1, 99, 0);
        x.shop(0, 1, 99, 0);
        x.shop(1, 1, 99, 1);
        x.man(0, 0, 4);
        x.be(0, 3, 4);
        x.be(0, 4, 99);
        x.be(0, 5, 99);
        x.hear(0, 2);
        x.run(1);
        due("NEED is there: none", x.sells(0, 2) + x.sells(1, 2) + x.sells(2, 2), 297);
        due("it ate it", x.is(0, 3), 0);
        x.be(0, 3, 3);
        x.run(1);
        due("one lacks: one", x.sells(0, 2), 98);
        due("no other SHOP", x.sells(1, 2) + x.sells(2, 2), 198);
        due("no COIN", x.is(0, 4), 99);
        due("no DEBT", x.is(0, 11), 0);
        x.run(1);
        due("all lack: four", x.sells(0, 2), 94);
        due("nothing is left over", x.is(0, 3), 0);
        x.be(0, 3, 5);
        x.run(1);
        due("more than NEED: none", x.sells(0, 2), 94);
        due("one is left", x.is(0, 3), 1);
    }

    private static void byChecks() {
        Due.says(13, "from each COMPANY shop, by numbers, by CHECKS, as many as these and STOCK let");
        TokenValley x = new TokenValley();
        x.rule(0, 0);
        x.shop(0, 5, 0, 0);
        x.shop(1, 1, 99, 0);
        x.shop(0, 4, 2, 0);
        x.shop(0, 3, 99, 0);
        x.man(0, 0, 9);
        x.be(0, 5, 16);
        x.run(1);
        // none of the first (no STOCK), two for 4 (all that is there), two for 3 of the 8 pence left
        Due.row("STOCKS", new int[] {x.sells(0, 2), x.sells(1, 2), x.sells(2, 2), x.sells(3, 2)}, 0, 99, 0, 97);
        due("CHECKS", x.is(0, 5), 2);
        due("nothing KNOWN where nothing was bought", x.known(0, 0, 0), NONE);
        x.be(0, 5, 3);
        x.run(1);
        due("just one", x.is(0, 5), 0);
        due("of the last one", x.sells(3, 2), 96);
        x.run(1);
        due("without CHECKS none", x.sells(3, 2), 96);
    }

    private static void townKnown() {
        Due.says(13, "least PRICE as known times the loaves that it lacks, and ROAD; of several the first");
        TokenValley x = new TokenValley();
        x.shop(0, 1, 1, 0);
        x.shop(1, 2, 99, 4);
        x.shop(1, 4, 99, 0);
        x.man(0, 0, 3);
        x.be(0, 4, 500);
        x.be(0, 5, 1);
        x.hear(0, 1);
        x.hear(0, 2);
        x.run(1);
        // one by CHECKS; of the two that lack then: 2 * 2 + 4 and 4 * 2 + 0 are both 8
        due("the first of both", x.sells(1, 2), 97);
        due("its PRICE and ROAD", x.is(0, 4), 492);
        x.shelf(1, 1, 9);
        x.run(1);
        due("by PRICE as known: 3 * 2 + 4 is below 12", x.sells(1, 2), 94);
        due("by PRICE as it is: 27 and ROAD", x.is(0, 4), 492 - 31);
        x.run(1);
        due("it KNOWS now, and goes to the other", x.sells(2, 2), 96);
        x = new TokenValley();
        x.shop(1, 1, 99, 0);
        x.man(0, 0, 1);
        x.be(0, 4, 500);
        x.run(1);
        due("one that is not KNOWN is none", x.is(0, 4), 500);
        x.hear(0, 0);
        x.run(1);
        due("as it is KNOWN", x.is(0, 4), 499);
    }

    private static void townLets() {
        Due.says(13, "as many as COIN less ROAD, PRICE (as it is) and STOCK let (if these are none it does not go, and pays no ROAD)");
        TokenValley x = new TokenValley();
        x.shop(1, 3, 5, 10);
        x.man(0, 0, 9);
        x.hear(0, 0);
        int[][] coinThenLeftAndBought = {{0, 0, 0}, {9, 9, 0}, {10, 10, 0}, {12, 12, 0}, {13, 0, 1}, {15, 2, 1}, {16, 0, 2}, {99, 86, 1}, {99, 99, 0}};
        for (int[] row : coinThenLeftAndBought) {
            int stock = x.sells(0, 2);
            x.be(0, 4, row[0]);
            x.be(0, 3, 9);
            x.run(1);
            x.be(0, 3, 0);
            x.run(1);
            due("COIN " + row[0] + " becomes", x.is(0, 4), row[1]);
            due("and so many loaves", stock - x.sells(0, 2), row[2]);
        }
    }

    private static void onDebt() {
        Due.says(13, "then from each COMPANY shop, by numbers, on DEBT, as many as LIMIT less what is OWED, and STOCK, let");
        TokenValley x = new TokenValley();
        x.shop(0, 7, 1, 0);
        x.shop(1, 1, 1, 0);
        x.shop(0, 30, 99, 0);
        x.shop(0, 20, 99, 0);
        x.man(0, 0, 9);
        x.hear(0, 1);
        x.be(0, 4, 5);
        x.run(1);
        // one of the TOWN; then one for 7, three for 30 of the 93 left; 3 are left: none for 20
        due("OWED", x.is(0, 11), 97);
        Due.row("STOCKS", new int[] {x.sells(0, 2), x.sells(1, 2), x.sells(2, 2), x.sells(3, 2)}, 0, 0, 96, 99);
        due("COIN", x.is(0, 4), 4);
        due("BOUGHT", x.is(0, 7), 4);
        due("HUNGER", x.is(0, 6), 1);
        x.rule(0, 96);
        x.run(1);
        due("LIMIT below what is OWED", x.is(0, 11), 97);
        x.rule(0, 117);
        x.run(1);
        due("LIMIT 20 above", x.is(0, 11), 117);
        due("by the one for 20", x.sells(3, 2), 98);
    }

    private static void eating() {
        Due.says(13, "Then it eats NEED; with fewer all, and has HUNGER 1 more; else HUNGER is 1 less (0 at least). With HUNGER 9 it is GONE");
        TokenValley x = new TokenValley();
        x.man(0, 1, 9);
        x.be(0, 3, 8);
        x.run(1);
        due("8 of 9: all", x.is(0, 3), 0);
        due("HUNGER 1", x.is(0, 6), 1);
        x.be(0, 3, 9);
        x.run(1);
        due("9 of 9", x.is(0, 3), 0);
        due("HUNGER 0", x.is(0, 6), 0);
        x.be(0, 3, 10);
        x.run(1);
        due("10 of 9", x.is(0, 3), 1);
        due("HUNGER still 0", x.is(0, 6), 0);
        x.run(8);
        due("HUNGER 8", x.is(0, 6), 8);
        x.be(0, 3, 18);
        x.run(2);
        due("8, 7, 6", x.is(0, 6), 6);
        x.run(2);
        due("8 again, not GONE", x.is(0, 9), 0);
        x.run(1);
        due("9: GONE", x.is(0, 9), 1);
        Due.says(13, "A DAY, for MEN who are not GONE");
        x = new TokenValley();
        x.shop(0, 5, 99, 0);
        x.man(0, 2, 1);
        x.rule(0, 0);
        x.be(0, 3, 5);
        x.run(13);
        due("HUNGER 8 behind DAY 12", x.is(0, 6), 8);
        due("EARNED of DAYS 7 to 12", x.is(0, 10), 240);
        int coin = x.is(0, 4);
        x.run(1);
        due("GONE on DAY 13, which ends its WEEK", x.is(0, 9), 1);
        due("it dug ahead of that", x.is(0, 10), 280);
        due("but is not PAID", x.is(0, 4), coin);
        x.be(0, 5, 99);
        x.run(7);
        due("it does not buy", x.is(0, 5), 99);
        due("nor eat", x.is(0, 6), 9);
        due("nor dig", x.dug(0, 4), 28);
    }

    private static void knowing() {
        Due.says(10, "Where it buys a loaf it KNOWS the PRICE as of this DAY");
        TokenValley x = new TokenValley();
        x.shop(0, 3, 99, 0);
        x.shop(0, 4, 1, 0);
        x.shop(1, 1, 99, 0);
        x.man(0, 0, 2);
        x.be(0, 3, 10);
        x.run(5);
        due("nothing where it bought nothing", x.known(0, 0, 0), NONE);
        due("nor a DAY", x.known(0, 0, 1), NONE);
        x.run(1);
        due("PRICE, bought on DEBT", x.known(0, 0, 0), 3);
        due("DAY 5", x.known(0, 0, 1), 5);
        due("nothing of the other one", x.known(0, 1, 0), NONE);
        x.shelf(0, 1, 99);
        x.be(0, 5, 4);
        x.run(1);
        due("PRICE, bought by CHECKS", x.known(0, 1, 0), 4);
        due("DAY 6", x.known(0, 1, 1), 6);
        due("where it bought none it KNOWS the old one", x.known(0, 0, 0), 3);
        due("of the old DAY", x.known(0, 0, 1), 5);
    }

    private static void news() {
        Due.says(13, "of MEN (who are not GONE) of one PIT each KNOWS of each SHOP what that one of them KNOWS that KNOWS it of the latest DAY");
        TokenValley x = new TokenValley();
        for (int i = 0; i < 6; i++) x.shop(1, 10 + i, 0, 0);
        for (int i = 0; i < 12; i++) {
            x.man(i < 10 ? 4 : 5, 0, 1);
            x.be(i, 3, 99);
        }
        for (int i = 0; i < 6; i++) x.hear(i, i);
        x.run(1);
        for (int man = 0; man < 12; man++) {
            for (int shop = 0; shop < 6; shop++) {
                due("MAN " + man + ", SHOP " + shop, x.known(man, shop, 0), man < 10 ? 10 + shop : NONE);
                due("and the DAY", x.known(man, shop, 1), man < 10 ? 0 : NONE);
            }
        }
        x = new TokenValley();
        x.shop(1, 5, 0, 0);
        for (int i = 0; i < 4; i++) {
            x.man(i / 2, 0, 1);
            x.be(i, 3, 99);
        }
        x.hear(3, 0);
        x.run(1);
        Due.row("PIT 0 hears nothing, PIT 1 does", new int[] {x.known(0, 0, 0), x.known(1, 0, 0), x.known(2, 0, 0)}, NONE, NONE, 5);
        Due.says(13, "MEN (who are not GONE) of one PIT");
        x = new TokenValley();
        x.shop(0, 7, 9, 0);
        x.man(0, 0, 9);
        x.man(0, 0, 1);
        x.be(1, 3, 99);
        x.rule(0, 7);
        x.be(0, 3, 1);
        x.shelf(0, 2, 0);
        x.run(8);
        due("HUNGER 8", x.is(0, 6), 8);
        x.shelf(0, 2, 9);
        x.run(1);
        due("it bought its last loaf on the DAY on which it is GONE", x.known(0, 0, 1), 8);
        due("GONE", x.is(0, 9), 1);
        due("and tells nobody", x.known(1, 0, 0), NONE);
    }

    private static void newsAllAtOnce() {
        Due.says(13, "of several the least MAN; all at once, as it was behind (b)");
        TokenValley x = new TokenValley();
        x.shop(1, 5, 0, 0);
        for (int i = 0; i < 3; i++) {
            x.man(0, 0, 1);
            x.be(i, 3, 99);
        }
        x.hear(2, 0);
        x.shelf(0, 1, 6);
        x.hear(1, 0);
        x.shelf(0, 1, 7);
        x.run(1);
        for (int man = 0; man < 3; man++) due("of DAY 0 what MAN 1 KNOWS", x.known(man, 0, 0), 6);
        x.hear(2, 0);
        x.run(1);
        for (int man = 0; man < 3; man++) due("of DAY 1 what MAN 2 KNOWS", x.known(man, 0, 0), 7);
        for (int man = 0; man < 3; man++) due("of DAY 1", x.known(man, 0, 1), 1);
        x = new TokenValley();
        x.shop(0, 3, 9, 0);
        x.man(0, 0, 1);
        x.man(0, 0, 1);
        x.be(0, 3, 99);
        x.run(1);
        due("what a later MAN buys on this DAY", x.known(0, 0, 1), 0);
    }

    private static void endOfWeek() {
        Due.says(13, "if the rest of WEEK and 1 by due is 0, PAY");
        TokenValley x = fed(1);
        Due.text(x, "due 3", 0);
        for (int week = 0; week < 9; week++) {
            x.run(7);
            due("behind WEEK " + week, x.is(0, 10), (week + 1) % 3 * 140);
        }
        x = fed(1);
        Due.text(x, "due 0", 0);
        x.run(7);
        due("due 0 is held: 1", x.is(0, 10), 0);
        x = fed(1);
        Due.text(x, "due 9999", 0);
        for (int i = 0; i < 11; i++) x.run(60);
        x.run(26);
        due("due is held: not behind WEEK 97", x.is(0, 10), 686 * 20);
        x.run(7);
        due("but behind WEEK 98", x.is(0, 10), 0);
        Due.says(13, "BOUGHT of all MEN (GONE ones, too) is 0");
        x = new TokenValley();
        x.shop(0, 1, 0, 0);
        x.man(0, 0, 9);
        x.run(7);
        x.shelf(0, 2, 5);
        x.run(2);
        due("GONE in WEEK 1", x.is(0, 9), 1);
        due("BOUGHT then", x.is(0, 7), 5);
        x.run(4);
        due("BOUGHT stays till the end", x.is(0, 7), 5);
        x.run(1);
        due("then it is 0", x.is(0, 7), 0);
    }

    private static void keep() {
        Due.says(13, "then each for whom keep is 0 is GONE");
        TokenValley x = new TokenValley();
        x.shop(0, 1, 99, 0);
        for (int i = 0; i < 3; i++) x.man(i, i, 1);
        x.be(1, 3, 7);
        Due.text(x, "keep b-7", 0);
        x.run(6);
        due("not ahead of the end", x.count(2), 0);
        x.run(1);
        Due.row("who BOUGHT 7 is GONE; below 0 is not 0", new int[] {x.is(0, 9), x.is(1, 9), x.is(2, 9)}, 1, 0, 1);
        due("PAID first", x.is(2, 4), 280 - 7);
        x = new TokenValley();
        x.shop(0, 1, 99, 0);
        for (int i = 0; i < 2; i++) x.man(i, i, 1);
        Due.text(x, "keep d=0", 0);
        x.run(7);
        Due.row("who still OWES is GONE", new int[] {x.is(0, 9), x.is(1, 9)}, 1, 0);
        due("HUNGER has nothing to do with it", x.is(0, 6), 0);
        x = fed(1);
        Due.text(x, "keep 0", 7);
        x.run(7);
        due("a TEXT of DAY 7 does not count on DAY 6", x.is(0, 9), 0);
        x.run(6);
        due("not ahead of the end", x.is(0, 9), 0);
        x.run(1);
        due("but on DAY 13", x.is(0, 9), 1);
    }

    private static void payOfDraws() {
        Due.says(13, "first DRAWS and CHECKS that are OPEN (they are DONE), by numbers");
        TokenValley x = fed(1);
        int[] dues = {x.draw(0, 100, 0), x.strike(0, 30), x.draw(0, 20, 1), x.strike(0, 7)};
        x.run(6);
        due("of 120", x.worth(0, 3), 120);
        x.run(1);
        // 140 EARNED, 157 DRAWN
        for (int d : dues) due("DONE", x.told(d, 5), 1);
        Due.row("AMOUNTS stay", new int[] {x.told(2, 2), x.told(3, 2), x.told(4, 2), x.told(5, 2)}, 100, 30, 20, 7);
        due("nothing LEFT", x.is(0, 4), 20);
        due("EARNED is 0", x.is(0, 10), 0);
        due("CHECKS that are DONE are out still", x.count(5), 2);
        x.run(7);
        due("they take nothing again", x.is(0, 4), 160);
    }

    private static void payOfFines() {
        Due.says(13, "then FINES that are OPEN (DONE; AMOUNT becomes what was taken)");
        TokenValley x = fed(1);
        x.fine(0, 60, 0);
        x.draw(0, 50, 0);
        x.fine(0, 40, 0);
        x.fine(0, 5, 0);
        x.let(x.fine(0, 99, 0));
        x.run(7);
        // 140 less 50 drawn: 60, 30 of 40, 0 of 5
        Due.row("AMOUNTS", new int[] {x.told(2, 2), x.told(4, 2), x.told(5, 2), x.told(6, 2)}, 60, 30, 0, 99);
        Due.row("states", new int[] {x.told(2, 5), x.told(4, 5), x.told(5, 5), x.told(6, 5)}, 1, 1, 1, 2);
        due("nothing LEFT", x.is(0, 4), 0);
        x.run(7);
        due("not again", x.is(0, 4), 140);
    }

    private static void payOfStops() {
        Due.says(13, "of a STOP AMOUNT at most, of all STOPS together stop at most; what they took is told as STOPPED");
        TokenValley x = fed(1);
        x.stop(0, 50, 0);
        x.stop(0, 60, 0);
        x.stop(0, 70, 0);
        x.run(7);
        Due.row("as far as LEFT lets", new int[] {x.told(2, 7), x.told(3, 7), x.told(4, 7)}, 50, 60, 30);
        Due.text(x, "stop e/2", 7);
        x.run(7);
        Due.row("70 together", new int[] {x.told(2, 7), x.told(3, 7), x.told(4, 7)}, 100, 80, 30);
        due("70 LEFT", x.is(0, 4), 70);
        Due.text(x, "stop 0", 14);
        x.run(7);
        Due.row("0 together", new int[] {x.told(2, 7), x.told(3, 7), x.told(4, 7)}, 100, 80, 30);
        due("140 LEFT", x.is(0, 4), 210);
        Due.text(x, "stop 0-5", 21);
        x.run(7);
        due("below 0 is held", x.is(0, 4), 350);
        Due.says(13, "STOPS that are OPEN (they stay OPEN;");
        Due.row("states", new int[] {x.told(2, 5), x.told(3, 5), x.told(4, 5)}, 0, 0, 0);
        Due.row("AMOUNTS", new int[] {x.told(2, 2), x.told(3, 2), x.told(4, 2)}, 50, 60, 70);
        x.let(2);
        Due.text(x, "stop 9999", 28);
        x.run(7);
        Due.row("one that is DONE takes nothing", new int[] {x.told(2, 7), x.told(3, 7), x.told(4, 7)}, 100, 140, 100);
        x.fine(0, 140, 0);
        x.run(7);
        Due.row("FINES go first", new int[] {x.told(3, 7), x.told(4, 7)}, 140, 100);
    }

    private static void payOfDebt() {
        Due.says(13, "then OWED (less as much)");
        TokenValley x = new TokenValley();
        x.shop(0, 10, 99, 0);
        x.man(0, 1, 1);
        x.pit(0, 0, 8);
        x.run(7);
        // 56 EARNED, 70 OWED
        due("as far as LEFT lets", x.is(0, 11), 14);
        due("nothing LEFT", x.is(0, 4), 0);
        x.pit(0, 0, 12);
        x.run(7);
        due("84 and 84", x.is(0, 11), 0);
        due("nothing LEFT of these", x.is(0, 4), 0);
        x.pit(0, 0, 11);
        x.stop(0, 5, 0);
        x.run(7);
        due("77 less 5 and 70", x.is(0, 4), 2);
    }

    private static void payOfCoin() {
        Due.says(13, "Of what is LEFT then coin hundredths come as COIN, the rest as CHECKS (99999 at most each; more is lost)");
        TokenValley x = fed(1);
        x.pit(0, 0, 1);
        Due.text(x, "coin 50", 0);
        x.run(7);
        due("50 hundredths of 7 are cut", x.is(0, 4), 3);
        due("the rest", x.is(0, 5), 4);
        Due.text(x, "coin 0-1", 7);
        x.run(7);
        due("coin is held at 0", x.is(0, 4), 3);
        due("all as CHECKS", x.is(0, 5), 11);
        Due.text(x, "coin 101", 14);
        x.run(7);
        due("coin is held at 100", x.is(0, 4), 10);
        due("none as CHECKS", x.is(0, 5), 11);
        Due.text(x, "coin l*w", 21);
        x.be(0, 1, 2);
        x.run(7);
        due("of LEFT 14 and the WEEK 3: 42 hundredths of 14", x.is(0, 4), 15);
        x.be(0, 4, 99999);
        x.be(0, 5, 99995);
        x.be(0, 1, 9);
        Due.text(x, "coin 50", 28);
        x.run(7);
        due("COIN above 99999 is lost", x.is(0, 4), 99999);
        due("CHECKS above 99999 are lost", x.is(0, 5), 99999);
        Due.says(13, "EARNED is 0");
        due("behind PAY", x.is(0, 10), 0);
        x = fed(9);
        Due.text(x, "wage 9999", 0);
        Due.text(x, "due 99", 0);
        Due.text(x, "coin 0", 0);
        for (int i = 0; i < 11; i++) x.run(60);
        x.run(32);
        due("EARNED of 692 DAYS", x.is(0, 10), 692 * 9999);
        x.run(1);
        due("CHECKS of it", x.is(0, 5), 99999);
        due("no COIN", x.is(0, 4), 0);
    }
}
