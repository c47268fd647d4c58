/** Promises 1 to 13: a new object, pits, shops, men, what they know, days that go by. */
public final class ValleyTest {
    private static final int BAD = Due.BAD, FULL = Due.FULL, NONE = Due.NONE;

    public static void main(String[] args) {
        newObject();
        pits();
        shops();
        men();
        being();
        hearing();
        ruling();
        running();
        digging();
        buyingByChecks();
        buyingInTown();
        choosingTown();
        buyingOnDebt();
        hunger();
        news();
        newsOfSeveral();
        weekEnds();
        keeping();
        paying();
        payingLittle();
        payingMuch();
        Due.end();
    }

    private static void due(String call, long got, long want) {
        Due.due(call, got, want);
    }

    private static void newObject() {
        TokenValley x = new TokenValley();
        for (int what = 0; what <= 14; what++) due("1: count " + what, x.count(what), 0);
        for (int pit = 0; pit < 8; pit++) {
            due("1: WEIGHT", x.dug(pit, 0), 20);
            due("1: SCALE", x.dug(pit, 1), 100);
            for (int what = 2; what <= 5; what++) due("1: dug " + what, x.dug(pit, what), 0);
            due("1: BOOKS are MISSING", x.read(pit, 0), Due.NOTHING);
        }
        due("1: LIMIT", x.rule(0, 0), 100);
        due("1: STORE", x.rule(1, 0), 0);
        due("1: ORDERS", x.rule(2, 0), 0);
        due("1: no IMAGE", x.back(), Due.NO);
        due("1: no WAYS end at the shop", x.round(), 0);
        due("1: nobody", x.is(0, 0), BAD);
        due("1: no SHOPS", x.sells(0, 0), BAD);
        due("1: no DUES", x.told(0, 0), BAD);
        due("1: no TEXTS", x.of(0, 0), BAD);
    }

    private static void pits() {
        TokenValley x = new TokenValley();
        due("2: weight", x.pit(7, 0, 99), 20);
        due("2: weight again", x.pit(7, 0, 1), 99);
        due("2: scale", x.pit(7, 1, 150), 100);
        due("2: scale again", x.pit(7, 1, 1), 150);
        due("2: weight 0", x.pit(7, 0, 0), BAD);
        due("2: weight 100", x.pit(7, 0, 100), BAD);
        due("2: scale 0", x.pit(7, 1, 0), BAD);
        due("2: scale 151", x.pit(7, 1, 151), BAD);
        due("2: pit -1", x.pit(-1, 0, 5), BAD);
        due("2: pit 8", x.pit(8, 0, 5), BAD);
        due("2: what -1", x.pit(0, -1, 5), BAD);
        due("2: what 2", x.pit(0, 2, 5), BAD);
        due("3: weight", x.dug(7, 0), 1);
        due("3: scale", x.dug(7, 1), 1);
        due("3: another pit", x.dug(6, 0), 20);
        due("3: pit -1", x.dug(-1, 0), BAD);
        due("3: pit 8", x.dug(8, 0), BAD);
        due("3: what -1", x.dug(0, -1), BAD);
        due("3: what 6", x.dug(0, 6), BAD);
        due("3: pit 8, men", x.dug(8, 5), BAD);
    }

    private static void shops() {
        TokenValley x = new TokenValley();
        due("4: sort -1", x.shop(-1, 1, 0, 0), BAD);
        due("4: sort 2", x.shop(2, 1, 0, 0), BAD);
        due("4: price 0", x.shop(0, 0, 0, 0), BAD);
        due("4: price 100", x.shop(0, 100, 0, 0), BAD);
        due("4: stock -1", x.shop(0, 1, -1, 0), BAD);
        due("4: stock 100000", x.shop(0, 1, 100000, 0), BAD);
        due("4: road -1", x.shop(1, 1, 0, -1), BAD);
        due("4: road 100", x.shop(1, 1, 0, 100), BAD);
        due("4: road of company", x.shop(0, 1, 0, 1), BAD);
        due("4: none yet", x.count(0), 0);
        due("4: company", x.shop(0, 1, 0, 0), 0);
        due("4: town", x.shop(1, 99, 99999, 99), 1);
        for (int i = 2; i < 6; i++) due("4: more", x.shop(1, i, i, 0), i);
        due("4: BAD ahead of FULL", x.shop(1, 0, 0, 0), BAD);
        due("4: FULL", x.shop(1, 1, 0, 0), FULL);
        due("6: sort", x.sells(1, 0), 1);
        due("6: price", x.sells(1, 1), 99);
        due("6: stock", x.sells(1, 2), 99999);
        due("6: road", x.sells(1, 3), 99);
        due("6: what -1", x.sells(1, -1), BAD);
        due("6: what 4", x.sells(1, 4), BAD);
        due("6: shop 6", x.sells(6, 0), BAD);
        due("6: shop -1", x.sells(-1, 0), BAD);
        due("5: price", x.shelf(1, 1, 1), 99);
        due("5: price again", x.shelf(1, 1, 99), 1);
        due("5: stock", x.shelf(1, 2, 0), 99999);
        due("5: stock again", x.shelf(1, 2, 99999), 0);
        due("5: sort", x.shelf(1, 0, 1), BAD);
        due("5: road", x.shelf(1, 3, 1), BAD);
        due("5: price 0", x.shelf(1, 1, 0), BAD);
        due("5: price 100", x.shelf(1, 1, 100), BAD);
        due("5: stock -1", x.shelf(1, 2, -1), BAD);
        due("5: stock 100000", x.shelf(1, 2, 100000), BAD);
        due("5: shop -1", x.shelf(-1, 1, 1), BAD);
        due("5: shop 6", x.shelf(6, 1, 1), BAD);
        due("5: nothing changed", x.sells(1, 1), 99);
    }

    private static void men() {
        TokenValley x = new TokenValley();
        due("7: pit -1", x.man(-1, 0, 1), BAD);
        due("7: pit 8", x.man(8, 0, 1), BAD);
        due("7: skill -1", x.man(0, -1, 1), BAD);
        due("7: skill 10", x.man(0, 10, 1), BAD);
        due("7: need 0", x.man(0, 0, 0), BAD);
        due("7: need 10", x.man(0, 0, 10), BAD);
        due("7: nobody yet", x.count(1), 0);
        due("7: no dues yet", x.count(3), 0);
        for (int i = 0; i < 12; i++) due("7: man", x.man(i % 8, i % 10, 1 + i % 9), i);
        due("7: BAD ahead of FULL", x.man(8, 0, 1), BAD);
        due("7: FULL of MEN", x.man(0, 0, 1), FULL);
        due("7: DUES", x.count(3), 24);
        due("8: PIT", x.is(11, 0), 3);
        due("8: SKILL", x.is(11, 1), 1);
        due("8: NEED", x.is(11, 2), 3);
        for (int what = 3; what <= 11; what++) due("8: at first " + what, x.is(11, what), 0);
        due("8: WAGE's number", x.is(11, 12), 22);
        due("8: DEBT's number", x.is(11, 13), 23);
        due("8: what 14", x.is(11, 14), BAD);
        due("8: what -1", x.is(11, -1), BAD);
        due("8: man 12", x.is(12, 0), BAD);
        due("8: man -1", x.is(-1, 10), BAD);
        due("3: men of pit 3", x.dug(3, 5), 2);
        due("3: men of pit 7", x.dug(7, 5), 1);
        due("21: WAGE is a DUE", x.told(22, 0), 1);
        due("21: DEBT is a DUE", x.told(23, 0), 6);
        due("21: SORT of a WAGE", x.told(22, 3), 0);
        due("21: SORT of a DEBT", x.told(23, 3), 0);
        fullOfDues();
    }

    private static void fullOfDues() {
        TokenValley x = new TokenValley();
        x.man(0, 1, 1);
        for (int i = 2; i < 58; i++) due("16: fine", x.fine(0, 1, 0), i);
        due("7: two places are left", x.man(1, 2, 3), 1);
        due("7: FULL of DUES", x.man(0, 1, 1), FULL);
        due("7: MEN", x.count(1), 2);
        TokenValley y = new TokenValley();
        y.man(0, 1, 1);
        for (int i = 2; i < 59; i++) y.fine(0, 1, 0);
        due("7: one place is left", y.man(0, 1, 1), FULL);
        due("16: the last one", y.fine(0, 1, 0), 59);
        due("16: FULL", y.fine(0, 1, 0), FULL);
        due("16: BAD ahead of FULL", y.fine(0, 0, 0), BAD);
        due("17: FULL", y.stop(0, 1, 0), FULL);
        due("14: FULL", y.draw(0, 1, 0), FULL);
        due("14: nothing got", y.is(0, 5), 0);
        due("15: FULL", y.strike(0, 1), FULL);
        due("3: DUES", y.count(3), 60);
    }

    private static void being() {
        TokenValley x = new TokenValley();
        x.man(1, 2, 3);
        int[] was = {1, 2, 3, 0, 0, 0};
        int[] low = {0, 0, 1, 0, 0, 0};
        int[] high = {7, 9, 9, 99999, 99999, 99999};
        for (int what = 0; what <= 5; what++) {
            due("9: lowest of " + what, x.be(0, what, low[what]), was[what]);
            due("9: highest of " + what, x.be(0, what, high[what]), low[what]);
            due("9: below of " + what, x.be(0, what, low[what] - 1), BAD);
            due("9: above of " + what, x.be(0, what, high[what] + 1), BAD);
            due("9: it is " + what, x.is(0, what), high[what]);
        }
        due("9: what -1", x.be(0, -1, 1), BAD);
        due("9: what 6", x.be(0, 6, 1), BAD);
        due("9: man 1", x.be(1, 0, 1), BAD);
        due("9: man -1", x.be(-1, 0, 1), BAD);
        due("3: it left its PIT", x.dug(1, 5), 0);
        due("3: and came to another", x.dug(7, 5), 1);
    }

    private static void hearing() {
        TokenValley x = new TokenValley();
        x.man(0, 1, 1);
        x.shop(1, 7, 0, 5);
        due("10: nothing", x.known(0, 0, 0), NONE);
        due("10: no day", x.known(0, 0, 1), NONE);
        due("11: hears", x.hear(0, 0), 1);
        due("10: price", x.known(0, 0, 0), 7);
        due("10: day", x.known(0, 0, 1), 0);
        x.shelf(0, 1, 9);
        due("10: price as known", x.known(0, 0, 0), 7);
        x.run(2);
        due("11: hears again", x.hear(0, 0), 1);
        due("10: new price", x.known(0, 0, 0), 9);
        due("10: new day", x.known(0, 0, 1), 2);
        due("10: BAD what", x.known(0, 0, 2), BAD);
        due("10: BAD what -1", x.known(0, 0, -1), BAD);
        due("10: BAD man", x.known(1, 0, 0), BAD);
        due("10: BAD shop", x.known(0, 1, 0), BAD);
        due("11: BAD man", x.hear(1, 0), BAD);
        due("11: BAD shop", x.hear(0, 1), BAD);
        due("11: BAD shop -1", x.hear(0, -1), BAD);
    }

    private static void ruling() {
        TokenValley x = new TokenValley();
        due("12: LIMIT", x.rule(0, 9999), 100);
        due("12: LIMIT above", x.rule(0, 10000), BAD);
        due("12: LIMIT below", x.rule(0, -1), BAD);
        due("12: LIMIT again", x.rule(0, 0), 9999);
        due("12: STORE", x.rule(1, 99999), 0);
        due("12: STORE above", x.rule(1, 100000), BAD);
        due("12: STORE again", x.rule(1, 0), 99999);
        due("12: ORDERS", x.rule(2, 9999), 0);
        due("12: ORDERS above", x.rule(2, 10000), BAD);
        due("12: ORDERS again", x.rule(2, 0), 9999);
        due("12: what 3", x.rule(3, 0), BAD);
        due("12: what -1", x.rule(-1, 0), BAD);
    }

    private static void running() {
        TokenValley x = new TokenValley();
        due("13: n 0", x.run(0), BAD);
        due("13: n 61", x.run(61), BAD);
        due("13: n -1", x.run(-1), BAD);
        for (int i = 1; i <= 116; i++) due("13: sixty days", x.run(60), 60 * i);
        due("13: beyond", x.run(40), FULL);
        due("13: BAD ahead of FULL", x.run(61), BAD);
        due("28: FULL", x.beside(40, 0), FULL);
        due("28: to the last day", x.beside(39, 0), 0);
        due("13: to the last day", x.run(39), 6999);
        due("13: FULL", x.run(1), FULL);
        due("28: FULL at the last day", x.beside(1, 0), FULL);
        due("56: WEEK", x.count(12), 999);
    }

    private static void digging() {
        TokenValley x = new TokenValley();
        x.man(2, 3, 1);
        x.man(2, 9, 1);
        x.be(0, 3, 99);
        x.be(1, 3, 99);
        x.pit(2, 0, 7);
        x.pit(2, 1, 93);
        Due.text(x, "wage t*2+s", 0);
        x.run(1);
        // 3 tubs of 7: 21, told 19; 9 tubs of 7: 63, told 58
        due("13: EARNED", x.is(0, 10), 19 * 2 + 3);
        due("13: SHORT", x.is(0, 8), 4);
        due("13: EARNED of the other", x.is(1, 10), 58 * 2 + 9);
        due("13: SHORT of the other", x.is(1, 8), 10);
        due("3: DUG", x.dug(2, 2), 84);
        due("3: TOLD", x.dug(2, 3), 77);
        due("3: TUBS", x.dug(2, 4), 12);
        x.pit(2, 1, 150);
        x.run(1);
        due("13: SHORT may be below 0", x.is(0, 8), 4 - 20);
        due("3: TOLD above DUG", x.dug(2, 3), 77 + 31 + 94);
        due("3: DUG of both days", x.dug(2, 2), 168);
        due("22: WAGE", x.as(0, 1), 41 + 65);
        due("8: SKILL 0 is paid too", x.be(0, 1, 0), 3);
        Due.text(x, "wage 5", 2);
        x.run(1);
        due("13: EARNED without tubs", x.is(0, 10), 111);
        due("13: TUBS without his", x.dug(2, 4), 33);
    }

    private static void buyingByChecks() {
        TokenValley x = new TokenValley();
        x.shop(0, 7, 1, 0);
        x.shop(1, 1, 99, 0);
        x.shop(0, 5, 99, 0);
        x.man(0, 0, 6);
        x.be(0, 3, 1);
        x.be(0, 5, 19);
        x.rule(0, 0);
        x.run(1);
        // lacks 5: one loaf for 7 (all that is there), then two for 5 of the 12 pence left
        due("13: CHECKS left", x.is(0, 5), 2);
        due("13: BOUGHT", x.is(0, 7), 3);
        due("13: STOCK of the first", x.sells(0, 2), 0);
        due("13: STOCK of the other", x.sells(2, 2), 97);
        due("13: TOWN not known", x.sells(1, 2), 99);
        due("13: HUNGER", x.is(0, 6), 1);
        due("13: BREAD", x.is(0, 3), 0);
        due("13: KNOWS the first", x.known(0, 0, 0), 7);
        due("13: KNOWS the other", x.known(0, 2, 0), 5);
        x.shelf(0, 2, 5);
        x.run(1);
        due("13: CHECKS too few for a loaf", x.is(0, 5), 2);
        due("13: KNOWS no new DAY", x.known(0, 0, 1), 0);
        x.be(0, 3, 6);
        x.be(0, 5, 999);
        x.run(1);
        due("13: has enough, buys none", x.is(0, 5), 999);
        due("13: ate all", x.is(0, 3), 0);
        due("13: HUNGER 1 less", x.is(0, 6), 1);
        x.shelf(0, 1, 1);
        x.be(0, 5, 1);
        x.run(1);
        due("13: one loaf for a penny", x.is(0, 5), 0);
    }

    private static void buyingInTown() {
        TokenValley x = new TokenValley();
        x.shop(1, 4, 2, 6);
        x.man(0, 0, 3);
        x.hear(0, 0);
        x.be(0, 4, 50);
        x.run(1);
        due("13: as many as STOCK lets", x.is(0, 4), 50 - 8 - 6);
        due("13: BOUGHT is of COMPANY", x.is(0, 7), 0);
        due("13: HUNGER", x.is(0, 6), 1);
        x.run(1);
        due("13: without STOCK no ROAD", x.is(0, 4), 36);
        x.shelf(0, 2, 9);
        x.be(0, 4, 9);
        x.run(1);
        due("13: COIN less ROAD is below PRICE", x.is(0, 4), 9);
        x.be(0, 4, 5);
        x.run(1);
        due("13: COIN is below ROAD", x.is(0, 4), 5);
        x.be(0, 4, 10);
        x.run(1);
        due("13: just one", x.is(0, 4), 0);
        due("13: STOCK", x.sells(0, 2), 8);
        x.shelf(0, 1, 20);
        x.be(0, 4, 60);
        x.run(1);
        due("13: PRICE as it is", x.is(0, 4), 60 - 40 - 6);
        due("13: PRICE then KNOWN", x.known(0, 0, 0), 20);
        due("13: as of this DAY", x.known(0, 0, 1), 5);
    }

    private static void choosingTown() {
        TokenValley x = new TokenValley();
        x.shop(1, 5, 99, 2);
        x.shop(1, 3, 99, 6);
        x.shop(1, 4, 99, 4);
        x.shop(1, 1, 99, 0);
        x.man(0, 0, 2);
        x.be(0, 4, 900);
        for (int shop = 0; shop < 3; shop++) x.hear(0, shop);
        x.run(1);
        // 12, 12, 12: of several the first; the cheapest of all is not known
        due("13: the first", x.sells(0, 2), 97);
        x.be(0, 2, 3);
        x.run(1);
        // 17, 15, 16
        due("13: ROAD counts less by more loaves", x.sells(1, 2), 96);
        x.be(0, 2, 1);
        x.run(1);
        // 7, 9, 8
        due("13: ROAD counts more by fewer", x.sells(0, 2), 96);
        x.shelf(1, 2, 0);
        x.be(0, 2, 3);
        int coin = x.is(0, 4);
        x.run(1);
        due("13: it goes to no other one", x.is(0, 4), coin);
        due("13: but is hungry", x.is(0, 6), 1);
    }

    private static void buyingOnDebt() {
        TokenValley x = new TokenValley();
        x.shop(0, 6, 3, 0);
        x.shop(0, 4, 99, 0);
        x.man(0, 0, 9);
        x.rule(0, 29);
        x.run(1);
        // 3 for 18, then 2 of 4 pence from the 11 that LIMIT lets
        due("13: OWED", x.is(0, 11), 26);
        due("13: BOUGHT", x.is(0, 7), 5);
        due("22: DEBT", x.as(1, 6), 26);
        due("13: HUNGER", x.is(0, 6), 1);
        x.rule(0, 10);
        x.run(1);
        due("13: LIMIT below OWED", x.is(0, 11), 26);
        due("13: BOUGHT no more", x.is(0, 7), 5);
        x.rule(0, 9999);
        x.run(1);
        due("13: as many as it lacks", x.is(0, 11), 62);
        due("13: HUNGER less", x.is(0, 6), 1);
    }

    private static void hunger() {
        TokenValley x = new TokenValley();
        x.man(0, 1, 2);
        x.be(0, 3, 1);
        x.run(8);
        due("13: HUNGER 8", x.is(0, 6), 8);
        due("13: ate what was there", x.is(0, 3), 0);
        due("8: not GONE", x.is(0, 9), 0);
        x.run(1);
        due("13: HUNGER 9", x.is(0, 6), 9);
        due("8: GONE", x.is(0, 9), 1);
        due("3: no MEN", x.dug(0, 5), 0);
        int tubs = x.dug(0, 4);
        due("3: TUBS of all MEN, from the beginning", tubs, 9);
        int earned = x.is(0, 10);
        due("13: PAID before it was GONE", earned, 40);
        x.be(0, 3, 99);
        x.run(10);
        due("13: does not dig", x.dug(0, 4), 9);
        due("13: does not eat", x.is(0, 3), 99);
        due("13: is not paid", x.is(0, 10), 40);
        due("13: stays GONE", x.is(0, 9), 1);
        due("56: GONE", x.count(2), 1);
    }

    private static void news() {
        TokenValley x = new TokenValley();
        x.shop(1, 5, 0, 0);
        x.man(0, 1, 1);
        x.man(0, 1, 1);
        x.man(1, 1, 1);
        for (int man = 0; man < 3; man++) x.be(man, 3, 99);
        x.hear(1, 0);
        x.run(1);
        due("13: a mate KNOWS", x.known(0, 0, 0), 5);
        due("13: of the same DAY", x.known(0, 0, 1), 0);
        due("13: not of another PIT", x.known(2, 0, 0), NONE);
        x.be(0, 0, 1);
        x.run(1);
        due("13: it goes with him", x.known(2, 0, 1), 0);
        x.shelf(0, 1, 8);
        x.hear(1, 0);
        x.be(0, 0, 0);
        x.run(1);
        due("13: the latest DAY counts", x.known(0, 0, 0), 8);
        due("13: its DAY", x.known(0, 0, 1), 2);
        due("13: the old one elsewhere", x.known(2, 0, 0), 5);
    }

    private static void newsOfSeveral() {
        TokenValley x = new TokenValley();
        x.shop(1, 5, 0, 0);
        x.man(0, 1, 1);
        x.man(0, 1, 1);
        x.man(0, 1, 1);
        for (int man = 0; man < 3; man++) x.be(man, 3, 99);
        x.hear(2, 0);
        x.shelf(0, 1, 6);
        x.hear(1, 0);
        x.run(1);
        due("13: of several the least MAN", x.known(0, 0, 0), 6);
        due("13: also of the others", x.known(2, 0, 0), 6);
        x.be(1, 0, 1);
        x.shelf(0, 1, 9);
        x.hear(0, 0);
        x.run(1);
        x.be(1, 0, 0);
        x.run(1);
        due("13: the first KNOWS it of a later DAY", x.known(1, 0, 0), 9);
        due("13: and the first still does", x.known(0, 0, 1), 1);
        TokenValley y = new TokenValley();
        y.shop(1, 5, 0, 0);
        y.man(0, 1, 1);
        y.man(0, 1, 1);
        y.be(1, 3, 99);
        y.run(9);
        due("8: GONE", y.is(0, 9), 1);
        y.hear(0, 0);
        y.run(1);
        due("13: a GONE one tells nothing", y.known(1, 0, 0), NONE);
        y.shelf(0, 1, 9);
        y.hear(1, 0);
        y.run(1);
        due("13: nor does it hear", y.known(0, 0, 0), 5);
    }

    private static void weekEnds() {
        TokenValley x = new TokenValley();
        x.shop(0, 1, 999, 0);
        x.man(0, 1, 1);
        Due.text(x, "due 2", 0);
        Due.text(x, "stop 0", 0);
        x.run(6);
        due("13: BOUGHT in this WEEK", x.is(0, 7), 6);
        x.run(1);
        due("13: BOUGHT in the next one", x.is(0, 7), 0);
        due("13: not PAID after one WEEK", x.is(0, 10), 140);
        x.run(7);
        due("13: PAID after two", x.is(0, 10), 0);
        due("13: COIN", x.is(0, 4), 280 - 14);
        due("13: OWED is paid", x.is(0, 11), 0);
        Due.text(x, "due w+2", 14);
        x.run(14);
        due("13: due of the WEEK: never", x.is(0, 10), 280);
        Due.text(x, "due w+1", 28);
        x.run(7);
        due("13: due of the WEEK: now", x.is(0, 10), 0);
    }

    private static void keeping() {
        TokenValley x = new TokenValley();
        x.shop(0, 1, 999, 0);
        x.man(0, 1, 1);
        x.man(0, 1, 1);
        x.man(0, 0, 1);
        x.be(1, 3, 3);
        Due.text(x, "keep b>6 & d=0", 0);
        x.run(7);
        due("13: bought seven", x.is(0, 9), 0);
        due("13: bought four", x.is(1, 9), 1);
        due("13: owes, behind PAY", x.is(2, 9), 1);
        due("13: PAID ahead of that", x.is(1, 4), 136);
        due("13: BOUGHT of GONE ones, too", x.is(1, 7), 0);
        due("56: GONE", x.count(2), 2);
    }

    private static void paying() {
        TokenValley x = new TokenValley();
        x.man(0, 9, 1);
        x.be(0, 3, 99);
        x.stop(0, 30, 1);
        x.fine(0, 200, 4);
        x.strike(0, 50);
        x.stop(0, 20, 2);
        x.draw(0, 60, 0);
        Due.text(x, "stop e/30", 0);
        Due.text(x, "coin l/10+w", 0);
        x.run(7);
        // EARNED 1260: 110 drawn, 200 fined, 42 stopped (30, 12), 908 LEFT; coin 90 hundredths
        due("13: DRAW is DONE", x.told(6, 5), 1);
        due("13: CHECK is DONE", x.told(4, 5), 1);
        due("13: CHECK is still out", x.told(4, 6), 0);
        due("13: FINE is DONE", x.told(3, 5), 1);
        due("13: FINE is whole", x.told(3, 2), 200);
        due("13: STOP stays OPEN", x.told(2, 5), 0);
        due("13: STOPPED", x.told(2, 7), 30);
        due("13: STOPPED by the next", x.told(5, 7), 12);
        due("13: AMOUNT of a STOP", x.told(5, 2), 20);
        due("13: COIN", x.is(0, 4), 817);
        due("13: CHECKS", x.is(0, 5), 60 + 91);
        x.run(7);
        // 1260 less 42 stopped is 1218: coin 100 (held)
        due("13: STOPPED in all", x.told(2, 7), 60);
        due("13: coin is held", x.is(0, 5), 60 + 91);
        due("13: COIN again", x.is(0, 4), 817 + 1218);
        Due.text(x, "coin w*10", 14);
        x.let(2);
        x.let(5);
        x.run(7);
        due("13: coin of the WEEK 2", x.is(0, 4), 817 + 1218 + 252);
        x.run(35);
        x.be(0, 4, 0);
        x.run(6);
        due("25: coin of the WEEK 8", x.worth(0, 1), 1080 * 80 / 100);
        x.run(1);
        due("13: coin of the WEEK 8", x.is(0, 4), 1260 * 80 / 100);
    }

    private static void payingLittle() {
        TokenValley x = new TokenValley();
        x.shop(0, 1, 99, 0);
        x.man(0, 1, 1);
        x.pit(0, 0, 1);
        x.draw(0, 4, 1);
        x.fine(0, 2, 0);
        x.fine(0, 2, 0);
        x.fine(0, 2, 0);
        x.stop(0, 5, 0);
        x.run(7);
        // EARNED 7: 4 drawn, 2 and 1 and 0 fined; nothing is left for the STOP and for what is OWED
        due("13: FINE whole", x.told(3, 2), 2);
        due("13: FINE in part", x.told(4, 2), 1);
        due("13: FINE by nothing", x.told(5, 2), 0);
        due("13: is DONE, too", x.told(5, 5), 1);
        due("13: STOPPED nothing", x.told(6, 7), 0);
        due("13: OWED", x.is(0, 11), 7);
        due("13: COIN", x.is(0, 4), 4);
        x.draw(0, 9, 1);
        x.run(7);
        due("13: DRAW beyond LEFT is DONE", x.told(7, 5), 1);
        due("13: its AMOUNT stays", x.told(7, 2), 9);
        due("13: EARNED", x.is(0, 10), 0);
        x.let(6);
        x.be(0, 1, 3);
        x.run(7);
        // 21 EARNED, and 21 OWED of three WEEKS (it has 13 COIN, but knows no TOWN)
        due("13: what is OWED goes", x.is(0, 11), 0);
        due("13: the rest", x.is(0, 4), 13);
        x.run(7);
        due("13: LEFT of 21", x.is(0, 4), 27);
    }

    private static void payingMuch() {
        TokenValley x = new TokenValley();
        x.man(0, 9, 1);
        x.be(0, 3, 999);
        x.be(0, 4, 99990);
        x.be(0, 5, 99998);
        Due.text(x, "wage 9999", 0);
        Due.text(x, "coin 50", 0);
        x.run(7);
        due("13: COIN above is lost", x.is(0, 4), 99999);
        due("13: CHECKS above are lost", x.is(0, 5), 99999);
        Due.text(x, "due 99", 7);
        for (int i = 0; i < 11; i++) x.run(60);
        due("13: EARNED of 660 days", x.is(0, 10), 660 * 9999);
        due("25: LEFT", x.worth(0, 0), 660 * 9999);
        due("25: COIN", x.worth(0, 1), 330 * 9999);
    }
}
