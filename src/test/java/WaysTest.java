import java.util.Random;

/** Promises 40 to 51: ways round an act, an inspector's round, who lasts longer, choices in their best order. */
public final class WaysTest {
    private static final int BAD = Due.BAD, NO = Due.NO, FULL = Due.FULL, SPENT = Due.SPENT, NONE = Due.NONE;

    public static void main(String[] args) {
        ending();
        goingRound();
        would();
        breaches();
        seeing();
        seeingAsAll();
        lasting();
        least();
        leastOfSeveral();
        choices();
        planning();
        trying();
        planningLong();
        planningAsAll();
        Due.end();
    }

    private static void due(String call, long got, long want) {
        Due.due(call, got, want);
    }

    private static void ending() {
        TokenValley x = new TokenValley();
        due("40: m -1", x.end(-1, 0, 0, 1), BAD);
        due("40: m 4", x.end(4, 0, 0, 1), BAD);
        due("40: p -1", x.end(0, -1, 0, 1), BAD);
        due("40: p 4", x.end(0, 4, 0, 1), BAD);
        due("40: t -1", x.end(0, 0, -1, 1), BAD);
        due("40: t 3", x.end(0, 0, 3, 1), BAD);
        due("40: is -1", x.end(0, 0, 0, -1), BAD);
        due("40: is 2", x.end(0, 0, 0, 2), BAD);
        due("41: none", x.round(), 0);
        due("40: it did not", x.end(3, 3, 2, 1), 0);
        due("40: it did", x.end(3, 3, 2, 1), 1);
        due("41: one", x.round(), 1);
        due("40: no more", x.end(3, 3, 2, 0), 1);
        due("40: it does not", x.end(3, 3, 2, 0), 0);
        due("41: none again", x.round(), 0);
        int many = 0;
        for (int m = 0; m < 4; m++) {
            for (int p = 0; p < 4; p++) {
                for (int t = 0; t < 3; t++) {
                    due("40: each by itself", x.end(m, p, t, 1), 0);
                    due("41: one more", x.round(), ++many);
                    due("42: the last", x.way(many - 1), 100 * m + 10 * p + t);
                }
            }
        }
        due("42: beyond all", x.way(48), NONE);
    }

    private static void goingRound() {
        TokenValley x = new TokenValley();
        int[] ways = {312, 2, 231, 110, 100};
        for (int way : ways) x.end(way / 100, way / 10 % 10, way % 10, 1);
        int[] sorted = {2, 100, 110, 231, 312};
        for (int i = 0; i < 5; i++) due("42: by m, then p, then t", x.way(i), sorted[i]);
        due("42: i -1", x.way(-1), BAD);
        due("42: NONE", x.way(5), NONE);
        due("42: most", x.way(Integer.MAX_VALUE), NONE);
        Due.text(x, "act m=1|t=1", 3);
        due("41: not in force", x.round(), 5);
        x.run(3);
        due("41: in force", x.round(), 2);
        due("42: the first", x.way(0), 2);
        due("42: the second", x.way(1), 312);
        Due.text(x, "act 0-m", 3);
        due("41: below 0 bars, too", x.round(), 1);
        due("42: m 0 is left", x.way(0), 2);
        due("42: no more", x.way(1), NONE);
    }

    private static void would() {
        TokenValley x = new TokenValley();
        x.end(0, 0, 0, 1);
        x.end(1, 1, 1, 1);
        x.end(2, 2, 2, 1);
        Due.text(x, "act m=2", 0);
        Due.text(x, "act p<2", 5);
        Due.text(x, "wage t", 0);
        due("43: of two in ROUND", x.would(1, 0), 2);
        due("43: of those barred already", x.would(0, 0), 0);
        due("43: BESIDES", x.would(1, 1), 24 - 2);
        due("43: BESIDES of the rule itself", x.would(0, 1), 11);
        due("43: KIND", x.would(2, 0), Due.KIND);
        due("43: BAD ahead of KIND", x.would(2, 2), BAD);
        due("43: what -1", x.would(0, -1), BAD);
        due("43: text 3", x.would(3, 0), BAD);
        due("43: text -1", x.would(-1, 0), BAD);
        x.run(5);
        due("43: in force now: of one", x.would(0, 0), 1);
        due("43: itself", x.would(1, 0), 0);
        x.end(0, 0, 0, 0);
        Due.text(x, "act 7", 9);
        due("43: all that do not END there", x.would(3, 1), 46);
    }

    private static void breaches() {
        TokenValley x = new TokenValley();
        due("44: place -1", x.breach(-1, 0, 0), BAD);
        due("44: place 4", x.breach(4, 0, 0), BAD);
        due("44: from -1", x.breach(0, -1, 0), BAD);
        due("44: from 7", x.breach(0, 7, 7), BAD);
        due("44: to below from", x.breach(0, 3, 2), BAD);
        due("44: to 7", x.breach(0, 3, 7), BAD);
        due("56: no BREACHES", x.count(7), 0);
        for (int i = 0; i < 16; i++) due("44: number", x.breach(i % 4, i % 7, 6), i);
        due("44: BAD ahead of FULL", x.breach(4, 0, 0), BAD);
        due("44: FULL", x.breach(0, 0, 0), FULL);
        due("56: BREACHES", x.count(7), 16);
        due("45: all but one of two on the last DAY", x.seen(7), 15);
    }

    private static void seeing() {
        TokenValley x = new TokenValley();
        due("45: none", x.seen(7), 0);
        for (int day = 0; day < 7; day++) due("46: the lesser place", x.at(7, day), 0);
        due("45: n 0", x.seen(0), BAD);
        due("45: n 8", x.seen(8), BAD);
        due("46: n 0", x.at(0, 0), BAD);
        due("46: n 8", x.at(8, 0), BAD);
        due("46: day -1", x.at(3, -1), BAD);
        due("46: day 3", x.at(3, 3), BAD);
        x.breach(3, 2, 2);
        due("46: asked first", x.at(3, 2), 3);
        due("45: not by then", x.seen(2), 0);
        due("45: by then", x.seen(3), 1);
        due("46: there", x.at(3, 2), 3);
        due("46: ahead of that", x.at(3, 1), 0);
        x.breach(1, 0, 2);
        x.breach(2, 1, 1);
        due("45: all three", x.seen(3), 3);
        due("46: first day", x.at(3, 0), 1);
        due("46: second day", x.at(3, 1), 2);
        due("46: third day", x.at(3, 2), 3);
        x.breach(0, 0, 0);
        due("45: one is not seen", x.seen(3), 3);
        due("46: of several the first", x.at(3, 0), 0);
        due("46: then the lesser place", x.at(3, 1), 1);
        due("46: then the other", x.at(3, 2), 3);
        TokenValley y = new TokenValley();
        y.keep();
        for (int i = 0; i < 4; i++) y.breach(i, 0, 6);
        due("45: four", y.seen(7), 4);
        y.back();
        y.breach(2, 3, 3);
        due("45: not those that went", y.seen(7), 1);
        due("46: nor where they were", y.at(7, 0), 0);
        due("46: but where it is", y.at(7, 3), 2);
    }

    /** Every round is gone through here, by numbers, without any short cut. */
    private static void seeingAsAll() {
        Random random = new Random(5);
        for (int turn = 0; turn < 40; turn++) {
            TokenValley x = new TokenValley();
            int many = random.nextInt(17);
            int[] place = new int[many], from = new int[many], to = new int[many];
            for (int b = 0; b < many; b++) {
                place[b] = random.nextInt(4);
                from[b] = random.nextInt(7);
                to[b] = Math.min(6, from[b] + random.nextInt(3));
                x.breach(place[b], from[b], to[b]);
            }
            int n = 1 + random.nextInt(7);
            int best = -1, bestRound = 0;
            for (int round = 0; round < 1 << 2 * n; round++) {
                int seen = 0;
                for (int b = 0; b < many; b++) {
                    boolean is = false;
                    for (int d = from[b]; d <= to[b] && d < n; d++) is |= (round >> 2 * (n - 1 - d) & 3) == place[b];
                    if (is) seen++;
                }
                if (seen > best) {
                    best = seen;
                    bestRound = round;
                }
            }
            due("45: the most", x.seen(n), best);
            for (int d = 0; d < n; d++) due("46: of the first best", x.at(n, d), bestRound >> 2 * (n - 1 - d) & 3);
        }
    }

    private static void lasting() {
        TokenValley x = new TokenValley();
        due("47: pits -1", x.last(-1, 0), BAD);
        due("47: pits 256", x.last(256, 0), BAD);
        due("47: what 2", x.last(1, 2), BAD);
        due("47: what -1", x.last(1, -1), BAD);
        due("47: without MEN", x.last(255, 0), 999);
        due("47: without ORDERS", x.last(255, 1), 999);
        x.man(0, 2, 3);
        x.man(0, 3, 2);
        x.man(5, 4, 1);
        x.be(0, 3, 100);
        x.be(1, 3, 61);
        x.be(2, 3, 99999);
        x.be(0, 4, 50);
        due("47: BREAD alone", x.last(1, 0), 30);
        due("47: above 999, too", x.last(32, 0), 99999);
        due("47: of both", x.last(33, 0), 30);
        x.shop(0, 1, 0, 0);
        due("47: COMPANY does not count", x.last(1, 0), 30);
        x.shop(1, 9, 0, 0);
        x.shop(1, 7, 0, 99);
        x.be(1, 3, 999);
        due("47: COIN by the cheapest TOWN's PRICE", x.last(1, 0), (100 + 7) / 3);
        due("47: nobody there", x.last(2, 0), 999);
        x.shelf(2, 1, 1);
        due("47: for a penny", x.last(1, 0), 150 / 3);
        x.man(6, 0, 1);
        x.man(6, 0, 1);
        x.be(4, 3, 7);
        due("47: one has nothing", x.last(64, 0), 0);
        x.man(7, 0, 1);
        x.be(5, 3, 7);
        due("47: in another PIT", x.last(192, 0), 0);
        x.rule(1, 1000);
        x.rule(2, 180);
        due("47: all dig: 180", x.last(0, 1), 999);
        due("47: PIT 0 does not", x.last(1, 1), 10);
        due("47: PIT 5 does not", x.last(32, 1), 12);
        due("47: neither", x.last(33, 1), 5);
        x.pit(0, 0, 21);
        due("47: true weight", x.last(32, 1), 1000 / 75);
        x.pit(0, 1, 1);
        due("47: not the TOLD one", x.last(32, 1), 1000 / 75);
        x.rule(1, 99999);
        due("47: 999 at most", x.last(32, 1), 999);
        x.rule(1, 0);
        due("47: no STORE", x.last(32, 1), 0);
        lastingWhenGone();
    }

    private static void lastingWhenGone() {
        TokenValley x = new TokenValley();
        x.man(0, 2, 3);
        x.man(0, 2, 1);
        x.be(1, 3, 99);
        x.run(9);
        due("47: GONE ones do not count", x.last(1, 0), 90);
        x.rule(1, 100);
        x.rule(2, 50);
        due("47: nor do they dig", x.last(2, 1), 10);
    }

    private static void least() {
        TokenValley x = new TokenValley();
        due("48: none", x.least(), NONE);
        x.man(0, 2, 1);
        x.man(3, 3, 1);
        x.man(6, 4, 1);
        x.be(0, 3, 9);
        x.be(1, 3, 9);
        x.be(2, 3, 9);
        x.rule(1, 100);
        x.rule(2, 180);
        // each lasts 9; the company without 40: 2
        due("48: one is enough", x.least(), 1);
        x.rule(1, 500);
        // 500 by 40: 12, by 60: 8
        due("48: another one", x.least(), 8);
        x.rule(1, 1100);
        // 1100 by 140: 7, by 120: 9, by 100: 11
        due("48: two", x.least(), 8 + 64);
        x.rule(1, 1300);
        // by 180: 7
        due("48: three", x.least(), 1 + 8 + 64);
        x.rule(1, 1620);
        due("48: as long is not longer", x.least(), NONE);
        x.be(1, 3, 0);
        x.rule(1, 900);
        due("48: not with one who cannot", x.least(), 1 + 64);
    }

    private static void leastOfSeveral() {
        TokenValley x = new TokenValley();
        x.man(4, 5, 1);
        x.man(2, 5, 1);
        x.be(0, 3, 9);
        x.be(1, 3, 9);
        x.rule(1, 500);
        x.rule(2, 200);
        due("48: of several the least as bits", x.least(), 4);
        x.rule(2, 201);
        due("48: PITS without MEN last 999 DAYS", x.least(), 1);
        x.rule(1, 0);
        x.rule(2, 200);
        due("48: nothing to last by", x.least(), 4);
    }

    private static void choices() {
        TokenValley x = new TokenValley();
        due("49: cost -1", x.choice(-1, 0, 0), BAD);
        due("49: cost 1000", x.choice(1000, 0, 0), BAD);
        due("49: gain -1", x.choice(0, -1, 0), BAD);
        due("49: gain 100", x.choice(0, 100, 0), BAD);
        due("49: ahead -1", x.choice(0, 0, -1), BAD);
        due("49: ahead 256", x.choice(0, 0, 256), BAD);
        due("50: without CHOICES", x.plan(0, 0, 1), 0);
        due("51: without CHOICES", x.planned(0, 0, 0), NONE);
        for (int i = 0; i < 8; i++) due("49: number", x.choice(999 - i, 99, 255 >> 8 - i), i);
        due("49: BAD ahead of FULL", x.choice(0, 0, 256), BAD);
        due("49: FULL", x.choice(0, 0, 0), FULL);
        due("56: CHOICES", x.count(8), 8);
        due("50: one order alone", x.plan(9999, 0, 8), 0);
        due("50: SPENT", x.plan(9999, 0, 7), SPENT);
        due("50: fund -1", x.plan(-1, 0, 8), BAD);
        due("50: fund 10000", x.plan(10000, 0, 8), BAD);
        due("50: income -1", x.plan(0, -1, 8), BAD);
        due("50: income 100", x.plan(0, 100, 8), BAD);
        due("50: tries 0", x.plan(0, 0, 0), BAD);
        due("50: tries 20001", x.plan(0, 0, 20001), BAD);
        due("51: fund", x.planned(10000, 0, 0), BAD);
        due("51: income", x.planned(0, 100, 0), BAD);
        due("51: i -1", x.planned(0, 0, -1), BAD);
        for (int i = 0; i < 8; i++) due("51: order", x.planned(9999, 0, i), i);
        due("51: no more", x.planned(9999, 0, 8), NONE);
        due("51: NO", x.planned(0, 0, 0), NO);
        due("51: NO ahead of NONE", x.planned(0, 0, 8), NO);
    }

    private static void planning() {
        TokenValley x = new TokenValley();
        x.choice(30, 1, 0);
        x.choice(20, 10, 0);
        // 1 first: week 2, then 0 behind 20, 40: week 4; 0 first: week 3, then 1 in week 5
        due("50: gains first", x.plan(0, 10, 99), 4);
        due("51: first", x.planned(0, 10, 0), 1);
        due("51: second", x.planned(0, 10, 1), 0);
        due("50: both at once", x.plan(50, 0, 99), 0);
        due("51: of several the first", x.planned(50, 0, 0), 0);
        due("50: a penny too few", x.plan(49, 0, 99), 1);
        due("51: with a gain on the way", x.planned(49, 0, 0), 0);
        due("50: tries of both", x.plan(0, 10, 4), 4);
        due("50: one fewer", x.plan(0, 10, 3), SPENT);
        x.choice(0, 0, 1);
        due("50: in the same WEEK", x.plan(0, 10, 99), 4);
        due("51: behind the one ahead of it", x.planned(0, 10, 2), 2);
        x.choice(0, 0, 16);
        due("50: what is ahead is not there", x.plan(0, 10, 99), NO);
        x.choice(0, 0, 0);
        due("50: now it is", x.plan(0, 10, 999), 4);
        x.choice(0, 0, 32);
        due("50: ahead of itself", x.plan(0, 10, 9999), NO);
    }

    private static void trying() {
        TokenValley x = new TokenValley();
        for (int i = 0; i < 6; i++) x.choice(1, 1, 0);
        // 6 + 30 + 120 + 360 + 720 + 720
        due("50: all orders", x.plan(99, 0, 1956), 0);
        due("50: one too few", x.plan(99, 0, 1955), SPENT);
        x.choice(1, 1, 0);
        // 7 * (1 + 1956)
        due("50: of seven", x.plan(99, 0, 13699), 0);
        due("50: of seven, one too few", x.plan(99, 0, 13698), SPENT);
        x.choice(1, 1, 0);
        due("50: of eight", x.plan(99, 0, 20000), SPENT);
        due("51: of eight", x.planned(99, 0, 0), SPENT);
        due("51: BAD first", x.planned(99, 0, -1), BAD);
        due("51: SPENT ahead of NONE", x.planned(99, 0, 9), SPENT);
        due("50: SPENT ahead of NO", x.plan(0, 0, 7), SPENT);
        due("50: what is not to be had is a TRY", x.plan(0, 0, 8), NO);
    }

    private static void planningLong() {
        TokenValley x = new TokenValley();
        x.choice(999, 0, 0);
        due("50: WEEK 999", x.plan(0, 1, 1), 999);
        due("50: never", x.plan(998, 0, 1), NO);
        due("50: at once", x.plan(999, 0, 1), 0);
        x.choice(1, 0, 1);
        due("50: WEEK 1000", x.plan(0, 1, 2), NO);
        due("50: is a TRY", x.plan(0, 1, 1), SPENT);
        due("50: WEEK 999 again", x.plan(1, 1, 2), 999);
        TokenValley y = new TokenValley();
        y.choice(999, 0, 0);
        y.choice(2, 1, 0);
        // 0 first: WEEK 999, then 1 in WEEK 1001: not; 1 first: WEEK 2, then 999 by 2 a WEEK
        due("50: only in one order", y.plan(0, 1, 4), 2 + 500);
        due("51: that one", y.planned(0, 1, 0), 1);
    }

    /** Every order is gone through here, WEEK by WEEK. */
    private static void planningAsAll() {
        Random random = new Random(8);
        for (int turn = 0; turn < 150; turn++) {
            TokenValley x = new TokenValley();
            int many = 1 + random.nextInt(5);
            int[][] choices = new int[many][];
            for (int c = 0; c < many; c++) {
                int ahead = random.nextInt(3) == 0 ? 1 << random.nextInt(many) & ~(1 << c) : 0;
                choices[c] = new int[] {random.nextInt(random.nextBoolean() ? 40 : 1000), random.nextInt(6), ahead};
                x.choice(choices[c][0], choices[c][1], choices[c][2]);
            }
            int fund = random.nextInt(20), income = random.nextInt(4);
            Slow slow = new Slow(choices);
            slow.go(new int[0], 0, fund, income);
            due("50: WEEK", x.plan(fund, income, 20000), slow.best == null ? NO : slow.week);
            if (slow.tries > 1) due("50: TRIES", x.plan(fund, income, slow.tries - 1), SPENT);
            for (int i = 0; slow.best != null && i < many; i++) due("51: order", x.planned(fund, income, i), slow.best[i]);
        }
    }

    private static final class Slow {
        private final int[][] choices;
        private int[] best;
        private int week;
        private int tries;

        Slow(int[][] choices) {
            this.choices = choices;
        }

        void go(int[] order, int now, int fund, int income) {
            int had = 0, gains = income;
            for (int c : order) {
                had |= 1 << c;
                gains += choices[c][1];
            }
            if (order.length == choices.length && (best == null || now < week)) {
                best = order;
                week = now;
            }
            for (int c = 0; c < choices.length; c++) {
                if ((had >> c & 1) != 0 || (choices[c][2] & had) != choices[c][2]) continue;
                tries++;
                int w = now, f = fund;
                while (f < choices[c][0] && w < 1000) {
                    f += gains;
                    w++;
                }
                if (w > 999) continue;
                int[] longer = java.util.Arrays.copyOf(order, order.length + 1);
                longer[order.length] = c;
                go(longer, w, f - choices[c][0], income);
            }
        }
    }
}
