/** The sentences of the document's term 6 that name an edge, in its order; each with the promise that shows it. */
public final class TermsOfWaysTest {
    private static final int BAD = Due.BAD, NO = Due.NO, FULL = Due.FULL, SPENT = Due.SPENT, NONE = Due.NONE;
    private static final int LEAST = Integer.MIN_VALUE, MOST = Integer.MAX_VALUE;

    public static void main(String[] args) {
        ends();
        barred();
        inRound();
        would();
        breaches();
        inspector();
        firstRound();
        menLast();
        companyLasts();
        leastSet();
        choices();
        fund();
        firstOrder();
        tries();
        beyondWeeks();
        rows();
        images();
        daysTold();
        daysFar();
        Due.end();
    }

    private static void due(String call, long got, long want) {
        Due.due(call, got, want);
    }

    private static void ends() {
        Due.says(40, "m 0 .. 3 in what, p 0 .. 3 where, t 0 .. 2 when; each may be told to END at the shop (none do at first)");
        TokenValley x = new TokenValley();
        int[][] bad = {{-1, 0, 0, 1}, {4, 0, 0, 1}, {0, -1, 0, 1}, {0, 4, 0, 1}, {0, 0, -1, 1}, {0, 0, 3, 1}, {0, 0, 0, -1}, {0, 0, 0, 2},
            {1, -1, 0, 1}, {0, 1, -1, 1}, {1, 4, 0, 1}, {0, 1, 3, 1},
            {LEAST, 0, 0, 0}, {0, MOST, 0, 0}, {0, 0, MOST, 0}, {3, 3, 2, MOST}};
        for (int[] b : bad) due("out of bounds", x.end(b[0], b[1], b[2], b[3]), BAD);
        due("none at first", x.round(), 0);
        due("none to tell", x.way(0), NONE);
        for (int i = 0; i < 48; i++) due("it did not", x.end(i / 12, i / 3 % 4, i % 3, 0), 0);
        for (int i = 0; i < 48; i++) due("it did not", x.end(i / 12, i / 3 % 4, i % 3, 1), 0);
        for (int i = 0; i < 48; i++) due("it did", x.end(i / 12, i / 3 % 4, i % 3, 1), 1);
        due("all 48", x.round(), 48);
        due("the first", x.way(0), 0);
        due("the last", x.way(47), 332);
        due("no more", x.way(48), NONE);
        due("far", x.way(MOST), NONE);
        due("below 0", x.way(-1), BAD);
        due("least", x.way(LEAST), BAD);
        for (int i = 0; i < 48; i++) due("it did", x.end(i / 12, i / 3 % 4, i % 3, 0), 1);
        due("none again", x.round(), 0);
    }

    private static TokenValley allEnd() {
        TokenValley x = new TokenValley();
        for (int i = 0; i < 48; i++) x.end(i / 12, i / 3 % 4, i % 3, 1);
        return x;
    }

    private static void barred() {
        Due.says(41, "BARRED by a TEXT of act: E is not 0");
        TokenValley x = allEnd();
        Due.text(x, "act 0", 0);
        due("none is", x.round(), 48);
        Due.text(x, "act 1", 0);
        due("each is", x.round(), 0);
        due("none to tell", x.way(0), NONE);
        Due.text(x, "act m-1", 0);
        due("below 0, too: m 1 is left", x.round(), 12);
        due("from there", x.way(0), 100);
        due("to there", x.way(11), 132);
        Due.text(x, "act m*100+p*10+t-231", 0);
        due("one is left", x.round(), 1);
        due("that one", x.way(0), 231);
        due("no other", x.way(1), NONE);
        Due.text(x, "act 0", 1);
        due("a TEXT of tomorrow", x.round(), 1);
        x.run(1);
        due("today", x.round(), 48);
    }

    private static void inRound() {
        Due.says(42, "by m, then p, then t; each told as 100 times m, 10 times p, and t");
        TokenValley x = allEnd();
        for (int i = 0; i < 48; i++) due("the " + i + "th", x.way(i), 100 * (i / 12) + 10 * (i / 3 % 4) + i % 3);
        Due.says(42, "those that END at the shop and are not BARRED by THE RULE of act");
        Due.text(x, "act t", 0);
        for (int i = 0; i < 16; i++) due("of t 0", x.way(i), 100 * (i / 4) + 10 * (i % 4));
        due("no more", x.way(16), NONE);
        x.end(0, 0, 0, 0);
        due("the first that ENDs there", x.way(0), 10);
        due("how many", x.round(), 15);
    }

    private static void would() {
        Due.says(43, "WOULD of a TEXT: how many of ROUND it BARS; BESIDES: how many that do not END there");
        TokenValley x = new TokenValley();
        due("no TEXT", x.would(0, 0), BAD);
        Due.text(x, "act 1", 9);
        Due.text(x, "act 0", 9);
        Due.text(x, "due 1", 0);
        Due.row("none END there", new int[] {x.would(0, 0), x.would(0, 1), x.would(1, 0), x.would(1, 1)}, 0, 48, 0, 0);
        x.end(1, 2, 0, 1);
        x.end(2, 2, 0, 1);
        Due.row("two END there", new int[] {x.would(0, 0), x.would(0, 1), x.would(1, 0), x.would(1, 1)}, 2, 46, 0, 0);
        Due.text(x, "act m=1", 0);
        Due.row("one is BARRED by THE RULE", new int[] {x.would(0, 0), x.would(0, 1), x.would(3, 0), x.would(3, 1)}, 1, 46, 0, 11);
        Due.text(x, "act 0-p", 6999);
        Due.row("below 0, and far off", new int[] {x.would(4, 0), x.would(4, 1)}, 1, 34);
        for (int i = 0; i < 48; i++) x.end(i / 12, i / 3 % 4, i % 3, 1);
        Due.row("all END there", new int[] {x.would(0, 0), x.would(0, 1)}, 36, 0);
        Due.says(43, "BAD: text, what; KIND: it is of another KEY");
        due("TEXT -1", x.would(-1, 0), BAD);
        due("TEXT 5", x.would(5, 0), BAD);
        due("what -1", x.would(0, -1), BAD);
        due("what 2", x.would(0, 2), BAD);
        due("of due", x.would(2, 0), Due.KIND);
        due("of due", x.would(2, 1), Due.KIND);
        due("BAD first", x.would(2, 2), BAD);
    }

    private static void breaches() {
        Due.says(44, "BREACHES, 16 at most, numbered from 0: at a place 0 .. 3, from a DAY of the WEEK (0 .. 6) to another one");
        TokenValley x = new TokenValley();
        int[][] bad = {{-1, 0, 0}, {4, 0, 0}, {0, -1, 0}, {0, 7, 7}, {0, 0, 7}, {0, 3, 2}, {0, 6, 5}, {0, 0, -1}, {LEAST, 0, 0}, {0, LEAST, MOST}, {0, 0, MOST}};
        for (int[] b : bad) due("out of bounds", x.breach(b[0], b[1], b[2]), BAD);
        due("none", x.count(7), 0);
        due("one DAY", x.breach(0, 0, 0), 0);
        due("the last DAY", x.breach(3, 6, 6), 1);
        due("all DAYS", x.breach(1, 0, 6), 2);
        for (int i = 3; i < 16; i++) due("number", x.breach(i % 4, 1, 5), i);
        due("the seventeenth", x.breach(0, 0, 0), FULL);
        due("BAD first", x.breach(0, 0, 7), BAD);
        due("sixteen", x.count(7), 16);
        due("all are seen", x.seen(7), 16);
    }

    private static void inspector() {
        Due.says(45, "AN INSPECTOR is at one place on each of n DAYS of the WEEK (1 .. 7; from 0 on), and sees all BREACHES that are there then");
        TokenValley x = new TokenValley();
        int[] bad = {LEAST, -1, 0, 8, MOST};
        for (int n : bad) {
            due("n " + n, x.seen(n), BAD);
            due("n " + n, x.at(n, 0), BAD);
        }
        for (int n = 1; n <= 7; n++) due("none to see", x.seen(n), 0);
        for (int day = 0; day < 7; day++) x.breach(day % 4, day, day);
        for (int n = 1; n <= 7; n++) due("one a DAY", x.seen(n), n);
        x.breach(1, 1, 1);
        x.breach(1, 1, 1);
        due("three at once", x.seen(2), 4);
        x.breach(0, 0, 6);
        due("one that lasts is seen once", x.seen(7), 10);
        Due.says(46, "BAD: also a DAY not below n");
        for (int n = 1; n <= 7; n++) {
            due("the last", x.at(n, n - 1), (n - 1) % 4);
            due("behind it", x.at(n, n), BAD);
            due("below 0", x.at(n, -1), BAD);
            due("far", x.at(n, MOST), BAD);
        }
    }

    private static void firstRound() {
        Due.says(46, "the one in which most BREACHES are seen; of several the first (by DAYS, the lesser place)");
        TokenValley x = new TokenValley();
        for (int n = 1; n <= 7; n++) for (int day = 0; day < n; day++) due("nothing to see", x.at(n, day), 0);
        x.breach(3, 2, 5);
        for (int n = 1; n <= 2; n++) for (int day = 0; day < n; day++) due("not yet", x.at(n, day), 0);
        int[] six = {0, 0, 0, 0, 0, 3};
        for (int day = 0; day < 6; day++) due("as late as may be", x.at(6, day), six[day]);
        due("on its first DAY", x.at(3, 2), 3);
        x.breach(2, 0, 6);
        int[] both = {0, 0, 0, 0, 0, 3, 2};
        for (int day = 0; day < 7; day++) due("both", x.at(7, day), both[day]);
        int[] four = {0, 0, 2, 3};
        for (int day = 0; day < 4; day++) due("of 2, 3 and 3, 2 the first", x.at(4, day), four[day]);
        due("one DAY", x.at(1, 0), 2);
        x = new TokenValley();
        x.keep();
        x.breach(2, 0, 6);
        due("the place of the one", x.at(1, 0), 2);
        x.back();
        due("nothing to see any more", x.at(1, 0), 0);
        due("nothing is seen", x.seen(1), 0);
    }

    private static void menLast() {
        Due.says(47, "A MAN LASTS (BREAD and COIN by the cheapest TOWN's PRICE, cut; without a TOWN BREAD alone) by NEED DAYS");
        TokenValley x = new TokenValley();
        x.man(0, 1, 3);
        x.be(0, 3, 5);
        x.be(0, 4, 23);
        due("5 by 3", x.last(1, 0), 1);
        x.shop(0, 1, 99, 0);
        due("COMPANY is no TOWN", x.last(1, 0), 1);
        x.shop(1, 24, 99, 0);
        due("COIN below PRICE", x.last(1, 0), 1);
        x.shop(1, 6, 0, 99);
        due("5 and 3 by 3: ROAD and STOCK do not matter", x.last(1, 0), 2);
        x.shelf(2, 1, 1);
        due("28 by 3", x.last(1, 0), 9);
        x.shelf(1, 1, 1);
        x.be(0, 3, 99999);
        x.be(0, 4, 99999);
        x.be(0, 2, 1);
        Due.says(47, "THE MEN LAST as long as the one who LASTS least (of all who are not GONE in these PITS, above 999, too; 999 without any)");
        due("above 999", x.last(1, 0), 199998);
        due("of all PITS", x.last(255, 0), 199998);
        for (int pit = 1; pit < 8; pit++) due("without any", x.last(1 << pit, 0), 999);
        due("of no PITS", x.last(0, 0), 999);
        x.man(7, 1, 1);
        x.be(1, 3, 1000);
        due("the least of two", x.last(129, 0), 1000);
        due("not of other PITS", x.last(127, 0), 199998);
        x.be(1, 3, 0);
        due("nothing", x.last(129, 0), 0);
        x.rule(0, 0);
        x.run(9);
        due("GONE", x.is(1, 9), 1);
        due("without him", x.last(129, 0), 199998 - 9);
        due("without any", x.last(128, 0), 999);
        due("pits -1", x.last(-1, 0), BAD);
        due("pits 256", x.last(256, 0), BAD);
        due("what -1", x.last(1, -1), BAD);
        due("what 2", x.last(1, 2), BAD);
    }

    private static void companyLasts() {
        Due.says(12, "The company has a STORE (0 .. 99999) and ORDERS (0 .. 9999) a DAY");
        TokenValley x = new TokenValley();
        for (int what = 1; what <= 2; what++) {
            int most = what == 1 ? 99999 : 9999;
            due("below", x.rule(what, -1), BAD);
            due("above", x.rule(what, most + 1), BAD);
            due("0 at first", x.rule(what, most), 0);
            due("most", x.rule(what, 0), most);
        }
        Due.says(47, "it LASTS STORE by (ORDERS less that) DAYS; 999, if that is 0 or below (999 at most)");
        x.man(0, 3, 1);
        x.man(1, 2, 1);
        x.rule(1, 500);
        due("no ORDERS", x.last(255, 1), 999);
        x.rule(2, 100);
        due("all dig: 100 less 100", x.last(0, 1), 999);
        due("100 less 60", x.last(2, 1), 12);
        due("100 less 40", x.last(1, 1), 8);
        due("100 less 0", x.last(3, 1), 5);
        due("a PIT without MEN changes nothing", x.last(4, 1), 999);
        x.rule(2, 99);
        due("below 0", x.last(0, 1), 999);
        x.rule(2, 101);
        due("500 by 1", x.last(0, 1), 500);
        x.rule(1, 999);
        due("999 by 1", x.last(0, 1), 999);
        x.rule(1, 99999);
        due("999 at most", x.last(0, 1), 999);
        x.rule(1, 0);
        due("no STORE", x.last(0, 1), 0);
        x.pit(0, 1, 150);
        x.rule(1, 7);
        due("true weight, not TOLD", x.last(0, 1), 7);
        x.be(1, 3, 99);
        x.run(9);
        due("GONE ones do not dig: 101 less 40", x.last(1, 1), 7 / 61);
        x.rule(1, 610);
        due("nor elsewhere", x.last(0, 1), 10);
    }

    private static void leastSet() {
        Due.says(48, "that with the fewest PITS for which the company LASTS fewer DAYS than THE MEN; of several the least as bits; none, if there is none");
        TokenValley x = new TokenValley();
        due("none: 999 and 999", x.least(), NONE);
        x.rule(2, 1);
        due("nobody: 0 and 999", x.least(), 1);
        for (int pit = 0; pit < 8; pit++) {
            x.man(pit, 1, 1);
            x.be(pit, 3, 10);
        }
        x.rule(2, 160);
        x.rule(1, 20 * 10);
        due("200 by 20: 10 is not fewer than 10", x.least(), 3);
        x.rule(1, 20 * 10 - 1);
        due("199 by 20: 9", x.least(), 1);
        x.be(0, 3, 9);
        due("but not with him who LASTS 9", x.least(), 2);
        x.rule(1, 20 * 7 * 10 - 1);
        due("seven of those who LAST 10", x.least(), 254);
        x.rule(1, 20 * 8 * 9 - 1);
        due("1439 by 160: 8; by 140: 10", x.least(), 255);
        x.rule(1, 20 * 8 * 9);
        due("1440 by 160: 9", x.least(), NONE);
        x.be(5, 1, 2);
        x.rule(2, 180);
        x.rule(1, 300);
        due("the one who digs most", x.least(), 32);
    }

    private static void choices() {
        Due.says(49, "CHOICES, 8 at most, numbered from 0: a COST 0 .. 999, a GAIN 0 .. 99, AHEAD: which must be had ahead of it (bits)");
        TokenValley x = new TokenValley();
        int[][] bad = {{-1, 0, 0}, {1000, 0, 0}, {0, -1, 0}, {0, 100, 0}, {0, 0, -1}, {0, 0, 256}, {LEAST, 0, 0}, {0, MOST, 0}, {0, 0, LEAST}};
        for (int[] b : bad) due("out of bounds", x.choice(b[0], b[1], b[2]), BAD);
        due("none", x.count(8), 0);
        due("all least", x.choice(0, 0, 0), 0);
        due("nothing to wait for", x.plan(0, 0, 1), 0);
        due("all most", x.choice(999, 99, 255), 1);
        due("AHEAD of itself, and of some that are not there", x.plan(9999, 0, 9), NO);
        for (int i = 2; i < 8; i++) due("number", x.choice(1, 1, 0), i);
        due("the ninth", x.choice(1, 1, 0), FULL);
        due("BAD first", x.choice(1, 1, 256), BAD);
        x = new TokenValley();
        for (int i = 0; i < 8; i++) x.choice(1, 0, i < 7 ? 1 << i + 1 : 0);
        for (int i = 0; i < 8; i++) due("each behind the next", x.planned(8, 0, i), 7 - i);
        due("one order alone", x.plan(8, 0, 8), 0);
        x = new TokenValley();
        x.choice(1, 0, 2);
        x.choice(1, 0, 1);
        due("each ahead of the other", x.plan(9, 0, 1), NO);
    }

    private static void fund() {
        Due.says(50, "A FUND has so many pence, and gets INCOME 0 .. 99 behind each WEEK, and GAINS of all that are had by then");
        TokenValley x = new TokenValley();
        x.choice(10, 5, 0);
        x.choice(20, 0, 1);
        due("both at once", x.plan(30, 0, 9), 0);
        due("a penny too few: 5 behind WEEK 0", x.plan(29, 0, 9), 1);
        due("10, then 20 by 5", x.plan(10, 0, 9), 4);
        due("9 pence and nothing more", x.plan(9, 0, 9), NO);
        due("9 and 1, then 6 a WEEK: 1 and 4", x.plan(9, 1, 9), 5);
        due("0 and 99: 99 behind WEEK 0 for both", x.plan(0, 99, 9), 1);
        due("FUND 9999", x.plan(9999, 99, 9), 0);
        Due.says(50, "with a FUND (0 .. 9999), an INCOME (0 .. 99), so many TRIES (1 .. 20000). BAD");
        due("FUND -1", x.plan(-1, 0, 9), BAD);
        due("FUND 10000", x.plan(10000, 0, 9), BAD);
        due("INCOME -1", x.plan(0, -1, 9), BAD);
        due("INCOME 100", x.plan(0, 100, 9), BAD);
        due("TRIES 0", x.plan(0, 0, 0), BAD);
        due("TRIES 20001", x.plan(0, 0, 20001), BAD);
        due("TRIES 20000", x.plan(30, 0, 20000), 0);
        Due.says(50, "one after the other is bought as soon as its COST is there (several in one WEEK, if it is)");
        x = new TokenValley();
        for (int i = 0; i < 4; i++) x.choice(0, 0, 0);
        due("four for nothing", x.plan(0, 0, 99), 0);
        x.choice(1, 0, 0);
        due("and one for a penny", x.plan(0, 1, 999), 1);
        Due.says(50, "Without CHOICES 0");
        due("one TRY", new TokenValley().plan(0, 0, 1), 0);
        due("BAD first", new TokenValley().plan(-1, 0, 1), BAD);
    }

    private static void firstOrder() {
        Due.says(51, "with the least WEEK (0 the first) in which the last one is bought; of several the first (by numbers)");
        TokenValley x = new TokenValley();
        for (int i = 0; i < 4; i++) x.choice(5, 0, 0);
        for (int i = 0; i < 4; i++) due("all alike: by numbers", x.planned(0, 5, i), i);
        due("WEEK 4", x.plan(0, 5, 9999), 4);
        x = new TokenValley();
        x.choice(10, 0, 0);
        x.choice(10, 10, 0);
        x.choice(10, 0, 0);
        // 1 first: WEEKS 1, 2, 2; else later
        due("WEEK 2", x.plan(0, 10, 99), 2);
        Due.row("the GAIN first, then by numbers", new int[] {x.planned(0, 10, 0), x.planned(0, 10, 1), x.planned(0, 10, 2)}, 1, 0, 2);
        due("with 20 more all end in WEEK 1: of several the first", x.planned(20, 10, 0), 0);
        Due.says(51, "NONE: there are not so many");
        due("the fourth", x.planned(0, 10, 3), NONE);
        due("most", x.planned(0, 10, MOST), NONE);
        due("none of none", new TokenValley().planned(0, 0, 0), NONE);
        due("i -1", x.planned(0, 10, -1), BAD);
        due("FUND -1", x.planned(-1, 10, 0), BAD);
        due("FUND 10000", x.planned(10000, 10, 0), BAD);
        due("INCOME -1", x.planned(0, -1, 0), BAD);
        due("INCOME 100", x.planned(0, 100, 0), BAD);
        due("NO ahead of NONE", x.planned(0, 0, 9), NO);
    }

    private static void tries() {
        Due.says(50, "SPENT: more than so many TRIES would be done");
        TokenValley x = new TokenValley();
        int[] all = {1, 4, 15, 64, 325, 1956, 13699};
        for (int many : all) {
            x.choice(1, 0, 0);
            due("just as many as there are", x.plan(7, 0, many), 0);
            if (many > 1) due("one fewer", x.plan(7, 0, many - 1), SPENT);
        }
        x.choice(1, 0, 0);
        due("eight: above 20000", x.plan(8, 0, 20000), SPENT);
        due("BAD first", x.plan(8, 100, 20000), BAD);
        Due.says(51, "found anew with 20000 TRIES");
        due("SPENT", x.planned(8, 0, 0), SPENT);
        due("SPENT ahead of NONE", x.planned(8, 0, 8), SPENT);
        due("BAD first", x.planned(8, 0, -1), BAD);
        due("with 7 pence each of the last is a TRY, too", x.planned(7, 0, 0), SPENT);
        due("with nothing eight TRIES", x.planned(0, 0, 0), NO);
        x.keep();
        x = new TokenValley();
        for (int i = 0; i < 7; i++) x.choice(1, 0, 0);
        due("seven: 13699", x.planned(7, 0, 6), 6);
    }

    private static void beyondWeeks() {
        Due.says(50, "what is not to be had by WEEK 999 ends that order there, and is a TRY");
        TokenValley x = new TokenValley();
        x.choice(999, 0, 0);
        due("in WEEK 999", x.plan(0, 1, 1), 999);
        due("never", x.plan(0, 0, 1), NO);
        due("never, a penny too few", x.plan(998, 0, 1), NO);
        x.choice(1, 0, 1);
        due("the second in WEEK 1000", x.plan(0, 1, 2), NO);
        due("that was a TRY", x.plan(0, 1, 1), SPENT);
        due("both in WEEK 999", x.plan(1, 1, 2), 999);
        x.choice(0, 0, 2);
        due("the third is no TRY", x.plan(0, 1, 2), NO);
        due("the third is one", x.plan(1, 1, 2), SPENT);
        due("in the same WEEK", x.plan(1, 1, 3), 999);
        Due.says(50, "all orders are gone through, also beyond 999 WEEKS");
        x = new TokenValley();
        x.choice(999, 0, 0);
        x.choice(500, 0, 0);
        // 999 first: then 500 is not to be had; 500 first: then 999 is not
        due("four TRIES", x.plan(0, 1, 4), NO);
        due("three", x.plan(0, 1, 3), SPENT);
        x = new TokenValley();
        x.choice(0, 0, 0);
        x.choice(0, 0, 0);
        x.choice(1, 0, 0);
        due("none had at WEEK 0 is left out", x.plan(1, 0, 14), SPENT);
        due("fifteen", x.plan(1, 0, 15), 0);
    }

    private static int check(TokenValley x, int what, int fund, int income, int... numbers) {
        for (int i = 0; i < numbers.length; i++) due("waits", x.tell(numbers[i]), i + 1);
        int answer = x.check(what, fund, income);
        due("none wait then", x.count(9), 0);
        return answer;
    }

    private static void rows() {
        Due.says(53, "ROWS: of each in order its number, and the WEEK in which it is bought");
        TokenValley x = new TokenValley();
        x.choice(20, 0, 0);
        x.choice(10, 10, 0);
        due("right", check(x, 0, 0, 10, 1, 1, 0, 2), 0);
        Due.says(53, "else 1 and how many of them (one by one) stand right ahead of the first that is not (or is missing, or one too many)");
        due("the first", check(x, 0, 0, 10, 0, 1, 0, 2), 1);
        due("the second", check(x, 0, 0, 10, 1, 0, 0, 2), 2);
        due("the third", check(x, 0, 0, 10, 1, 1, 1, 2), 3);
        due("the fourth", check(x, 0, 0, 10, 1, 1, 0, 3), 4);
        due("all are missing", check(x, 0, 0, 10), 1);
        due("three are missing", check(x, 0, 0, 10, 1), 2);
        due("one is missing", check(x, 0, 0, 10, 1, 1, 0), 4);
        due("one too many", check(x, 0, 0, 10, 1, 1, 0, 2, 0), 5);
        due("two too many", check(x, 0, 0, 10, 1, 1, 0, 2, 0, 0), 5);
        due("wrong and too many", check(x, 0, 0, 10, 1, 1, 5, 2, 0), 3);
        due("what was told ahead of that is gone", check(x, 0, 0, 10, 1, 1, 0, 2), 0);
        due("of none", check(new TokenValley(), 0, 0, 0), 0);
        TokenValley y = new TokenValley();
        for (int i = 0; i < 8; i++) y.choice(10, 0, i == 0 ? 0 : 1 << i - 1);
        due("of eight", check(y, 0, 10, 10, 0, 0, 1, 1, 2, 2, 3, 3, 4, 4, 5, 5, 6, 6, 7, 7), 0);
        due("of eight the last", check(y, 0, 10, 10, 0, 0, 1, 1, 2, 2, 3, 3, 4, 4, 5, 5, 6, 6, 7, 8), 16);
        due("seventeen of eight", check(y, 0, 10, 10, 0, 0, 1, 1, 2, 2, 3, 3, 4, 4, 5, 5, 6, 6, 7, 7, 0), 17);
        due("one too many of none", check(new TokenValley(), 0, 0, 0, 7), 1);
        Due.says(52, "FULL: 60 wait");
        for (int i = 1; i <= 60; i++) due("waits", x.tell(MOST), i);
        due("the sixty-first", x.tell(1), FULL);
        due("sixty", x.count(9), 60);
        due("wrong from the first on", x.check(0, 0, 10), 1);
        due("none wait", x.count(9), 0);
        Due.says(53, "The numbers that wait (none do then, whatever is answered)");
        due("BAD what", check(x, 2, 0, 0, 1), BAD);
        due("BAD what", check(x, -1, 0, 0, 1), BAD);
        due("BAD FUND", check(x, 0, 10000, 0, 1), BAD);
        due("BAD FUND", check(x, 0, -1, 0, 1), BAD);
        due("BAD INCOME", check(x, 0, 0, 100, 1), BAD);
        due("BAD INCOME", check(x, 0, 0, -1, 1), BAD);
        due("BAD n", check(x, 1, 0, 0, 1), BAD);
        due("BAD n", check(x, 1, 29, 0, 1), BAD);
        due("NO order", check(x, 0, 0, 0, 1), NO);
        due("NO IMAGE", check(x, 1, 1, 0, 1), NO);
        due("BAD n without an IMAGE", check(x, 1, 29, 0, 1), BAD);
        for (int i = 2; i < 8; i++) x.choice(1, 0, 0);
        due("SPENT", check(x, 0, 99, 0, 1), SPENT);
    }

    private static void images() {
        Due.says(55, "all can become as it is (again and again)");
        TokenValley x = new TokenValley();
        due("no IMAGE", x.back(), NO);
        x.man(0, 1, 1);
        x.be(0, 3, 99);
        x.run(1);
        due("the DAY", x.keep(), 1);
        for (int i = 0; i < 3; i++) {
            x.run(7);
            x.man(1, 1, 1);
            x.fine(0, 5, 0);
            due("the DAY", x.back(), 1);
            Due.row("as it was", new int[] {x.count(1), x.count(3), x.is(0, 3), x.is(0, 10), x.is(0, 4)}, 1, 2, 98, 20, 0);
        }
        x.pit(0, 1, 50);
        x.stop(0, 3, 0);
        x.run(1);
        x.keep();
        x.run(5);
        x.be(0, 0, 3);
        Due.row("DUG, TOLD, STOPPED", new int[] {x.dug(0, 2), x.dug(0, 3), x.told(2, 7)}, 140, 80, 3);
        x.back();
        Due.row("as they were", new int[] {x.dug(0, 2), x.dug(0, 3), x.told(2, 7), x.is(0, 0)}, 40, 30, 0, 0);
        due("another IMAGE", x.keep(), 2);
        x.run(1);
        due("the later one", x.back(), 2);
        Due.says(54, "AN IMAGE is kept: the DAY");
        TokenValley y = new TokenValley();
        due("of nothing", y.keep(), 0);
        y.man(0, 1, 1);
        due("back to nothing", y.back(), 0);
        due("nobody", y.count(1), 0);
        due("no DUES", y.told(0, 0), BAD);
    }

    private static void daysTold() {
        Due.says(53, "EARNED of all MEN together, and what is OWED by all, behind each of n DAYS from THE IMAGE on (nobody doing anything)");
        TokenValley x = new TokenValley();
        x.shop(0, 4, 5, 0);
        x.man(0, 1, 1);
        x.man(1, 2, 1);
        x.be(1, 3, 5);
        x.run(4);
        // EARNED 80 and 160, OWED 16; one loaf is left, and the second has bread for one DAY more
        x.keep();
        due("DAYS 4, 5, 6", check(x, 1, 3, 0, 300, 20, 360, 20, 0, 0), 0);
        x.run(3);
        x.shelf(0, 2, 99);
        x.fine(0, 9, 9);
        due("whatever was done since", check(x, 1, 3, MOST, 300, 20, 360, 20, 0, 0), 0);
        due("no DAY went by", x.count(11), 7);
        due("the second number", check(x, 1, 1, LEAST, 300, 16), 2);
        due("one DAY", check(x, 1, 1, 0, 300, 20), 0);
        due("one too many", check(x, 1, 1, 0, 300, 20, 360), 3);
        due("the IMAGE stays", x.back(), 4);
        due("STOCK, too", x.sells(0, 2), 1);
        Due.says(53, "fund: n DAYS 1 .. 28");
        x.keep();
        for (int day = 0; day < 28; day++) {
            x.run(1);
            x.tell(x.is(0, 10) + x.is(1, 10));
            x.tell(x.is(0, 11) + x.is(1, 11));
        }
        due("fifty-six numbers", x.count(9), 56);
        due("28 DAYS", x.check(1, 28, 0), 0);
        due("29 DAYS", x.check(1, 29, 0), BAD);
        due("0 DAYS", x.check(1, 0, 0), BAD);
        due("-1 DAYS", x.check(1, -1, 0), BAD);
        due("of nobody", check(nobody(), 1, 2, 0, 0, 0, 0, 0), 0);
        x = new TokenValley();
        Due.text(x, "wage 7", 0);
        Due.text(x, "coin 0", 0);
        x.shop(0, 10, 99, 0);
        x.man(0, 1, 1);
        x.be(0, 3, 7);
        x.fine(0, 29, 0);
        x.keep();
        // 49 less the FINE are 20, in CHECKS: bread for DAYS 7 and 8; the DEBT comes on DAY 9
        due("by rules and DUES as they are", check(x, 1, 10, 0, 7, 0, 14, 0, 21, 0, 28, 0, 35, 0, 42, 0, 0, 0, 7, 0, 14, 0, 21, 10), 0);
    }

    private static TokenValley nobody() {
        TokenValley x = new TokenValley();
        x.keep();
        return x;
    }

    private static void daysFar() {
        Due.says(53, "beyond DAY 6999, too");
        TokenValley x = new TokenValley();
        x.man(0, 1, 1);
        x.be(0, 3, 99999);
        for (int i = 0; i < 116; i++) x.run(60);
        x.run(38);
        due("DAY 6998 is the fifth of its WEEK", x.is(0, 10), 100);
        x.keep();
        // DAYS 6998, 6999 (which ends its WEEK), 7000 and more
        due("to DAY 7003", check(x, 1, 5, 0, 120, 0, 0, 0, 20, 0, 40, 0, 60, 0), 0);
        due("the DAY stays", x.count(11), 6998);
        due("one more goes by", x.run(1), 6999);
        x.keep();
        due("from DAY 6999 on", check(x, 1, 2, 0, 0, 0, 20, 0), 0);
        due("no more goes by", x.run(1), FULL);
    }
}
