/** Promises 14 to 28: draws, checks, fines, stops, worth, scales proved, men bound, another valley beside. */
public final class DuesTest {
    private static final int BAD = Due.BAD, NO = Due.NO, NONE = Due.NONE, KIND = Due.KIND;

    public static void main(String[] args) {
        draws();
        strikes();
        finesAndStops();
        goneMen();
        letting();
        selling();
        melting();
        telling();
        kinds();
        wrongFines();
        worth();
        worthInShops();
        proving();
        bound();
        beside();
        Due.end();
    }

    private static void due(String call, long got, long want) {
        Due.due(call, got, want);
    }

    private static void draws() {
        TokenValley x = new TokenValley();
        x.man(0, 1, 1);
        due("14: man 1", x.draw(1, 5, 0), BAD);
        due("14: man -1", x.draw(-1, 5, 0), BAD);
        due("14: amount 0", x.draw(0, 0, 0), BAD);
        due("14: amount 1000", x.draw(0, 1000, 0), BAD);
        due("14: sort -1", x.draw(0, 5, -1), BAD);
        due("14: sort 2", x.draw(0, 5, 2), BAD);
        due("14: nothing got", x.count(13) + x.count(14), 0);
        due("14: checks", x.draw(0, 999, 0), 2);
        due("14: CHECKS", x.is(0, 5), 999);
        due("14: coin", x.draw(0, 1, 1), 3);
        due("14: COIN", x.is(0, 4), 1);
        due("14: sort is told", x.told(3, 3), 1);
        x.be(0, 4, 99998);
        x.be(0, 5, 99998);
        x.draw(0, 7, 0);
        x.draw(0, 7, 1);
        due("14: above is lost", x.is(0, 4), 99999);
        due("14: above is lost, too", x.is(0, 5), 99999);
        due("14: AMOUNT", x.told(5, 2), 7);
    }

    private static void strikes() {
        TokenValley x = new TokenValley();
        x.man(0, 1, 1);
        x.man(0, 1, 1);
        due("15: man 2", x.strike(2, 5), BAD);
        due("15: amount 0", x.strike(0, 0), BAD);
        due("15: amount 1000", x.strike(0, 1000), BAD);
        due("15: number", x.strike(1, 999), 4);
        due("15: it is out", x.count(5), 1);
        due("15: its holder", x.told(4, 6), 1);
        due("15: its MAN", x.told(4, 1), 1);
        due("15: no CHECKS yet", x.is(1, 5), 0);
        due("15: sort", x.told(4, 3), 0);
    }

    private static void finesAndStops() {
        TokenValley x = new TokenValley();
        x.man(0, 1, 1);
        due("16: man", x.fine(1, 5, 0), BAD);
        due("16: amount 0", x.fine(0, 0, 0), BAD);
        due("16: amount 1000", x.fine(0, 1000, 0), BAD);
        due("16: sort -1", x.fine(0, 5, -1), BAD);
        due("16: sort 10", x.fine(0, 5, 10), BAD);
        due("17: man", x.stop(-1, 5, 0), BAD);
        due("17: amount 0", x.stop(0, 0, 0), BAD);
        due("17: amount 1000", x.stop(0, 1000, 0), BAD);
        due("17: sort -1", x.stop(0, 5, -1), BAD);
        due("17: sort 10", x.stop(0, 5, 10), BAD);
        due("16: fine", x.fine(0, 999, 9), 2);
        due("17: stop", x.stop(0, 1, 0), 3);
        due("21: KIND of a FINE", x.told(2, 0), 4);
        due("21: KIND of a STOP", x.told(3, 0), 5);
    }

    private static void goneMen() {
        TokenValley x = new TokenValley();
        x.man(0, 1, 1);
        x.run(9);
        due("14: GONE", x.draw(0, 1, 0), NO);
        due("14: BAD first", x.draw(0, 1, 2), BAD);
        due("15: GONE", x.strike(0, 1), NO);
        due("16: GONE", x.fine(0, 1, 0), NO);
        due("17: GONE", x.stop(0, 1, 0), NO);
        due("17: BAD first", x.stop(0, 1, 10), BAD);
        x.man(0, 1, 1);
        for (int i = 4; i < 60; i++) x.fine(1, 1, 0);
        due("16: NO ahead of FULL", x.fine(0, 1, 0), NO);
        due("16: FULL", x.fine(1, 1, 0), Due.FULL);
    }

    private static void letting() {
        TokenValley x = new TokenValley();
        x.man(0, 1, 1);
        x.be(0, 3, 99);
        x.fine(0, 5, 0);
        x.stop(0, 5, 0);
        x.draw(0, 5, 0);
        x.strike(0, 5);
        due("18: due 6", x.let(6), BAD);
        due("18: due -1", x.let(-1), BAD);
        due("18: WAGE", x.let(0), KIND);
        due("18: DEBT", x.let(1), KIND);
        due("18: DRAW", x.let(4), KIND);
        due("18: CHECK", x.let(5), KIND);
        due("18: FINE", x.let(2), 1);
        due("18: is BACK", x.told(2, 5), 2);
        due("18: nothing is paid", x.is(0, 4), 0);
        due("18: not twice", x.let(2), NO);
        due("18: STOP", x.let(3), 1);
        due("18: is DONE", x.told(3, 5), 1);
        due("18: STOP not twice", x.let(3), NO);
        x.run(7);
        due("18: neither takes anything", x.is(0, 4), 130);
        due("18: not STOPPED", x.told(3, 7), 0);
        due("23: BACK is not WRONG", x.wrong(0), 0);
    }

    private static void selling() {
        TokenValley x = new TokenValley();
        for (int i = 0; i < 3; i++) x.man(0, 1, 1);
        x.strike(0, 55);
        x.draw(0, 5, 0);
        x.be(1, 4, 100);
        due("19: due", x.sell(8, 1, 0), BAD);
        due("19: man", x.sell(6, 3, 0), BAD);
        due("19: discount -1", x.sell(6, 1, -1), BAD);
        due("19: discount 100", x.sell(6, 1, 100), BAD);
        due("19: no CHECK", x.sell(7, 1, 0), KIND);
        due("19: BAD ahead of KIND", x.sell(7, 1, 100), BAD);
        due("19: no COIN", x.sell(6, 2, 0), NO);
        due("19: he holds it", x.sell(6, 0, 0), NO);
        due("19: 33 hundredths of 55 are 18", x.sell(6, 1, 33), 37);
        due("19: who pays", x.is(1, 4), 63);
        due("19: who gets", x.is(0, 4), 37);
        due("19: the holder", x.told(6, 6), 1);
        due("19: whose it is", x.told(6, 1), 0);
        due("19: AMOUNT stays", x.told(6, 2), 55);
        x.be(2, 4, 54);
        due("19: a penny too few", x.sell(6, 2, 0), NO);
        x.be(2, 4, 55);
        x.be(1, 4, 99999);
        due("19: just enough", x.sell(6, 2, 0), 55);
        due("19: above is lost", x.is(1, 4), 99999);
        due("19: all paid", x.is(2, 4), 0);
        due("19: from whom it was drawn", x.count(5), 1);
        x.be(0, 3, 99);
        x.be(2, 3, 99);
        x.run(7);
        due("19: PAID by whom it was drawn", x.is(0, 4), 37 + 140 - 60);
        due("19: not by the holder", x.is(2, 4), 140);
        due("19: DONE, but out: sold on", x.sell(6, 0, 99), 55 - 54);
        due("19: melted", x.melt(6), 60);
        due("19: not out", x.sell(6, 1, 0), NO);
    }

    private static void melting() {
        TokenValley x = new TokenValley();
        x.man(0, 1, 1);
        x.man(0, 1, 1);
        x.strike(0, 30);
        x.fine(0, 1, 1);
        due("20: due 6", x.melt(6), BAD);
        due("20: due -1", x.melt(-1), BAD);
        due("20: FINE", x.melt(5), KIND);
        x.be(1, 4, 30);
        x.sell(4, 1, 50);
        x.be(1, 5, 12);
        due("20: the holder's CHECKS", x.melt(4), 42);
        due("20: told", x.is(1, 5), 42);
        due("20: not of whom it was drawn", x.is(0, 5), 0);
        due("20: not out", x.melt(4), NO);
        due("20: none are out", x.count(5), 0);
        due("20: no holder", x.told(4, 6), NONE);
        due("20: still OPEN", x.told(4, 5), 0);
        x.strike(0, 30);
        x.be(0, 5, 99990);
        due("20: above is lost", x.melt(6), 99999);
    }

    private static void telling() {
        TokenValley x = new TokenValley();
        x.man(0, 1, 1);
        x.be(0, 3, 99);
        x.run(3);
        x.man(1, 1, 1);
        x.stop(1, 8, 7);
        int[] stop = {5, 1, 8, 7, 3, 0, NONE, 0};
        int[] wage = {1, 1, 0, 0, 3, 0, NONE, 0};
        for (int what = 0; what < 8; what++) {
            due("21: STOP " + what, x.told(4, what), stop[what]);
            due("21: WAGE " + what, x.told(2, what), wage[what]);
        }
        due("21: DAY of the first", x.told(0, 4), 0);
        due("21: what 8", x.told(4, 8), BAD);
        due("21: what -1", x.told(4, -1), BAD);
        due("21: due 5", x.told(5, 0), BAD);
        due("21: due -1", x.told(-1, 0), BAD);
        due("56: OPEN", x.count(4), 5);
    }

    private static void kinds() {
        TokenValley x = new TokenValley();
        x.man(0, 1, 1);
        x.be(0, 3, 9);
        x.run(1);
        x.draw(0, 3, 0);
        x.strike(0, 4);
        x.fine(0, 5, 0);
        x.stop(0, 6, 0);
        int[] kind = {1, 6, 2, 3, 4, 5};
        int[] amount = {20, 0, 3, 4, 5, 6};
        int[] under = {-1, 0, 1, 2, 0, 0, 0};
        for (int d = 0; d < 6; d++) {
            due("22: kind -1", x.as(d, -1), BAD);
            due("22: kind 7", x.as(d, 7), BAD);
            for (int k = 0; k <= 6; k++) {
                boolean is = false;
                for (int up = kind[d]; up >= 0; up = under[up]) is |= up == k;
                due("22: due " + d + " as " + k, x.as(d, k), is ? amount[d] : KIND);
            }
        }
        due("22: due 6", x.as(6, 0), BAD);
        due("22: due -1", x.as(-1, 0), BAD);
    }

    private static void wrongFines() {
        TokenValley x = new TokenValley();
        x.man(0, 1, 1);
        x.man(0, 1, 1);
        x.be(0, 3, 99);
        x.be(1, 3, 99);
        x.fine(0, 10, 1);
        x.fine(0, 20, 2);
        x.fine(1, 40, 2);
        x.fine(0, 30, 2);
        due("23: OPEN ones are not", x.wrong(0), 0);
        x.run(7);
        due("23: fine is 1", x.wrong(0), 0);
        Due.text(x, "fine b=1 | a>25", 7);
        due("23: of sort 2 to 25", x.wrong(0), 20);
        due("23: the other's", x.wrong(1), 0);
        due("23: man", x.wrong(2), BAD);
        due("23: man -1", x.wrong(-1), BAD);
        due("24: man", x.give(2), BAD);
        due("24: none", x.give(1), NO);
        x.be(0, 4, 99990);
        due("24: given", x.give(0), 20);
        due("24: COIN above is lost", x.is(0, 4), 99999);
        due("24: BACK", x.told(5, 5), 2);
        due("24: the others are DONE", x.told(4, 5), 1);
        due("24: not twice", x.give(0), NO);
        Due.text(x, "fine 0", 8);
        due("23: not yet", x.wrong(0), 0);
        x.run(1);
        due("23: now, both", x.wrong(0), 40);
        x.fine(0, 1, 0);
        due("24: both are given", x.give(0), 40);
        due("24: an OPEN one stays", x.told(8, 5), 0);
        TokenValley y = new TokenValley();
        y.man(0, 0, 1);
        y.be(0, 3, 99);
        y.fine(0, 10, 1);
        Due.text(y, "fine 0", 0);
        y.run(7);
        due("23: nothing was taken", y.wrong(0), 0);
        due("24: nothing to give", y.give(0), NO);
        y.be(0, 1, 1);
        y.fine(0, 1, 1);
        y.run(7);
        due("23: a penny", y.wrong(0), 1);
    }

    private static void worth() {
        TokenValley x = new TokenValley();
        x.shop(0, 7, 99, 0);
        x.man(0, 5, 1);
        x.draw(0, 30, 1);
        x.strike(0, 12);
        x.fine(0, 25, 0);
        x.stop(0, 40, 0);
        x.stop(0, 40, 0);
        Due.text(x, "stop 50", 0);
        Due.text(x, "coin 30+w", 0);
        x.run(4);
        // EARNED 400: 42, 25, 50, 28 go, and 255 are LEFT
        int[] want = {255, 76, 179, 42, 25, 50, 28, 36, 0};
        for (int what = 0; what < 9; what++) due("25: worth " + what, x.worth(0, what), want[what]);
        due("25: nothing changed", x.is(0, 10), 400);
        due("25: OWED as it was", x.is(0, 11), 28);
        due("25: FINE is OPEN", x.told(4, 5), 0);
        due("25: COIN as it was", x.is(0, 4), 30);
        due("25: what 9", x.worth(0, 9), BAD);
        due("25: what -1", x.worth(0, -1), BAD);
        due("25: man", x.worth(1, 0), BAD);
        x.run(3);
        x.run(1);
        // EARNED 100, 50 stopped; coin 31, and bread came by CHECKS
        due("25: in the next WEEK", x.worth(0, 1), 15);
    }

    private static void worthInShops() {
        TokenValley x = new TokenValley();
        x.man(0, 2, 1);
        x.be(0, 3, 99);
        x.run(1);
        due("25: without COMPANY", x.worth(0, 7), 0);
        due("25: without a TOWN", x.worth(0, 8), 0);
        x.shop(0, 9, 0, 0);
        x.shop(0, 6, 0, 0);
        x.shop(0, 7, 0, 0);
        due("25: the cheapest COMPANY", x.worth(0, 7), 6);
        x.shop(1, 1, 0, 41);
        due("25: ROAD above LEFT", x.worth(0, 8), 0);
        x.shop(1, 5, 0, 7);
        due("25: ROAD first", x.worth(0, 8), 6);
        x.shop(1, 9, 0, 0);
        due("25: the most of all TOWNS", x.worth(0, 8), 6);
        x.shelf(0, 1, 1);
        due("25: COMPANY for a penny", x.worth(0, 7), 40);
        TokenValley y = new TokenValley();
        y.shop(1, 1, 0, 39);
        y.man(0, 2, 1);
        y.be(0, 3, 99);
        y.run(1);
        due("25: a TOWN for a penny", y.worth(0, 8), 1);
        due("25: no COMPANY", y.worth(0, 7), 0);
    }

    private static void proving() {
        TokenValley x = new TokenValley();
        x.man(3, 7, 1);
        x.be(0, 3, 999);
        due("26: no TUBS", x.prove(3, 1, 99, 0), NONE);
        due("26: BAD ahead of NONE", x.prove(3, 0, 99, 0), BAD);
        x.pit(3, 1, 85);
        x.run(3);
        // 21 tubs, told 357
        due("26: the least", x.prove(3, 15, 23, 0), 35700 / (21 * 23));
        due("26: the most", x.prove(3, 15, 23, 1), 35700 / (21 * 15));
        due("26: low = high", x.prove(3, 20, 20, 1), 85);
        due("26: what 2", x.prove(3, 15, 23, 2), BAD);
        due("26: what -1", x.prove(3, 15, 23, -1), BAD);
        due("26: low 0", x.prove(3, 0, 23, 0), BAD);
        due("26: low 100", x.prove(3, 100, 100, 0), BAD);
        due("26: high below low", x.prove(3, 15, 14, 0), BAD);
        due("26: high 100", x.prove(3, 15, 100, 0), BAD);
        due("26: pit 8", x.prove(8, 15, 23, 0), BAD);
        due("26: pit -1", x.prove(-1, 15, 23, 0), BAD);
        due("26: the edges", x.prove(3, 1, 99, 1), 1700);
        x.man(7, 1, 1);
        x.be(1, 3, 9);
        x.run(1);
        due("26: PIT 7, a tub that may weigh 1", x.prove(7, 1, 1, 0), 2000);
        TokenValley y = new TokenValley();
        for (int i = 0; i < 12; i++) {
            y.man(0, 9, 1);
            y.be(i, 3, 99999);
        }
        y.pit(0, 0, 99);
        y.pit(0, 1, 150);
        for (int i = 0; i < 30; i++) y.run(60);
        // TOLD is above 2^31 by 100
        due("26: far above ints by 100", y.prove(0, 1, 1, 0), 1336 * 100 / 9);
    }

    private static void bound() {
        TokenValley x = new TokenValley();
        x.man(0, 1, 2);
        due("27: without a shop", x.bound(0, 9999, 1), NONE);
        x.shop(1, 1, 9, 0);
        due("27: TOWN does not count", x.bound(0, 9999, 1), NONE);
        x.shop(0, 3, 9, 0);
        x.shop(0, 1, 9, 0);
        // 42 more in each WEEK
        due("27: at once", x.bound(0, 42, 1), 1);
        due("27: a penny too few", x.bound(0, 41, 1), NONE);
        due("27: behind each 5", x.bound(0, 210, 5), 5);
        due("27: behind each 5, too few", x.bound(0, 209, 5), NONE);
        due("27: nothing", x.bound(0, 0, 1), NONE);
        x.run(2);
        due("27: OWED", x.is(0, 11), 12);
        due("27: with 12 OWED", x.bound(0, 42, 1), NONE);
        due("27: one less in each", x.bound(0, 43, 1), 12);
        due("27: behind each 3", x.bound(0, 127, 3), 36);
        due("27: behind each 99", x.bound(0, 99 * 42 + 1, 99), NONE);
        due("27: behind each 99, two less", x.bound(0, 99 * 42 + 2, 99), 594);
        due("27: man", x.bound(1, 1, 1), BAD);
        due("27: pence -1", x.bound(0, -1, 1), BAD);
        due("27: pence 10000", x.bound(0, 10000, 1), BAD);
        due("27: weeks 0", x.bound(0, 1, 0), BAD);
        due("27: weeks 100", x.bound(0, 1, 100), BAD);
        due("27: nothing changed", x.is(0, 11), 12);
        boundToTheLast();
    }

    private static void boundToTheLast() {
        TokenValley x = new TokenValley();
        x.shop(0, 10, 999, 0);
        x.man(0, 0, 1);
        x.rule(0, 9999);
        x.be(0, 2, 5);
        x.run(20);
        x.be(0, 2, 1);
        due("27: OWED", x.is(0, 11), 1000);
        due("27: WEEK 1000", x.bound(0, 71, 1), 1000);
        TokenValley y = new TokenValley();
        y.shop(0, 7, 999, 0);
        y.man(0, 0, 1);
        y.rule(0, 9999);
        y.run(6);
        y.be(0, 2, 9);
        y.run(15);
        y.be(0, 2, 1);
        y.rule(0, 0);
        due("27: OWED", y.is(0, 11), 987);
        due("27: WEEK 987", y.bound(0, 50, 1), 987);
        y.rule(0, 9999);
        y.run(2);
        due("27: OWED again", y.is(0, 11), 1001);
        due("27: WEEK 1001", y.bound(0, 50, 1), NONE);
    }

    private static void beside() {
        TokenValley x = new TokenValley();
        x.shop(0, 5, 9999, 0);
        x.shop(1, 2, 9999, 0);
        x.man(0, 1, 1);
        x.hear(0, 1);
        Due.text(x, "coin 0", 0);
        Due.text(x, "keep b>0", 7);
        // this valley: checks, so bread of COMPANY; beside: coin, so of the TOWN, and GONE by keep
        due("28: n 0", x.beside(0, 0), BAD);
        due("28: n 61", x.beside(61, 0), BAD);
        due("28: what 3", x.beside(1, 3), BAD);
        due("28: what -1", x.beside(1, -1), BAD);
        due("28: GONE", x.beside(14, 2), 1);
        due("28: not yet GONE", x.beside(13, 2), 0);
        due("28: OWED is 0 in both", x.beside(14, 0), 0);
        due("28: no DAY went by", x.count(11), 0);
        due("28: nobody is GONE", x.count(2), 0);
        due("28: 1 .. 60", x.beside(60, 2), 1);
        besideInDebt();
    }

    private static void besideInDebt() {
        TokenValley x = new TokenValley();
        x.shop(0, 4, 9999, 0);
        x.man(0, 1, 1);
        x.pit(0, 0, 6);
        x.be(0, 3, 7);
        Due.text(x, "coin 0", 0);
        // 42 are earned; in checks they buy 10 loaves for 4, in coin nothing: OWED in the other valley
        due("28: OWED of three days", x.beside(10, 0), 12);
        x.be(0, 3, 9);
        due("28: BREAD of both", x.beside(1, 1), 0);
        due("28: bread left over", x.is(0, 3), 9);
        TokenValley y = new TokenValley();
        y.shop(1, 1, 9999, 0);
        y.man(0, 1, 1);
        y.hear(0, 0);
        Due.text(y, "coin 0", 0);
        due("28: one GONE fewer", y.beside(9, 2), -1);
        TokenValley z = new TokenValley();
        z.shop(0, 4, 9999, 0);
        z.man(0, 1, 1);
        z.pit(0, 0, 6);
        z.be(0, 3, 14);
        Due.text(z, "coin 0", 7);
        // the first WEEK's pay is coin in both; of the second one 10 loaves are bought by checks in this one
        due("28: a TEXT of a later DAY", z.beside(17, 0), 12);
        Due.text(z, "coin 100", 13);
        due("28: of a still later one", z.beside(17, 0), 0);
    }
}
