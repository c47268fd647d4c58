import java.util.Random;

/**
 * Any calls in any order (told by seeds): none throws, a refused one changes nothing, an image comes back as it was,
 * and what is told of days to come is what then comes.
 */
public final class AnyCallsTest {
    private static final int[] EDGES = {
        Integer.MIN_VALUE, -32769, -32768, -100, -2, -1, 0, 1, 2, 6, 7, 8, 11, 12, 28, 30, 59, 60, 61, 96, 99, 100, 150,
        255, 256, 999, 1000, 6999, 7000, 9999, 10000, 20000, 32767, 32768, 65535, 99999, 100000, Integer.MAX_VALUE - 1,
        Integer.MAX_VALUE,
    };
    private static final String[] TEXTS = {
        "wage t*3/2", "wage t+s-1", "wage 9999", "wage 0-t", "stop e/4", "stop 7", "due 2", "due w", "due w/2+1", "coin 0",
        "coin 50+w", "coin l/9", "fine b>2", "fine 0", "fine a<20", "keep b>3|d<90", "keep 0", "act m=1|p>2&t", "act p", "act",
        "due !", "keep (d", "coin 12345", "act !!!!!!!!!m",
    };

    public static void main(String[] args) {
        for (int seed = 1; seed <= 60; seed++) anything(new Random(seed), seed);
        for (int seed = 1; seed <= 150; seed++) sensible(new Random(seed), seed);
        Due.end();
    }

    private static void anything(Random random, int seed) {
        TokenValley x = new TokenValley();
        for (int i = 0; i < 512; i++) {
            int which = random.nextInt(55);
            int[] a = new int[5];
            for (int k = 0; k < 5; k++) a[k] = random.nextInt(3) == 0 ? EDGES[random.nextInt(EDGES.length)] : random.nextInt(12);
            unchangedIfRefused(x, which, a, seed);
        }
    }

    private static void unchangedIfRefused(TokenValley x, int which, int[] a, int seed) {
        String before = Seen.kept(x);
        int waits = x.count(9);
        int bytes = x.count(10);
        int answer = call(x, which, a);
        if (answer > Due.BAD || answer < Due.SIZE || which == 33 || which == 36) return;
        Due.due("seed " + seed + ": refused call " + which + " changed the state", before.equals(Seen.kept(x)) ? 0 : 1, 0);
        if (which != 50) Due.due("refused: numbers that wait", x.count(9), waits);
        if (which != 29) Due.due("refused: the tape", x.count(10), bytes);
    }

    private static void sensible(Random random, int seed) {
        TokenValley x = new TokenValley();
        settle(x, random);
        for (int turn = 0; turn < 6; turn++) {
            for (int i = 0; i < 8; i++) act(x, random);
            imageComesBack(x, random, seed);
            daysAsTold(x, random, seed);
            besideAsTold(x, random, seed);
            payAsTold(x, seed);
        }
        withinBounds(x, seed);
    }

    private static void settle(TokenValley x, Random random) {
        for (int i = random.nextInt(5); i >= 0; i--) {
            int sort = random.nextInt(2);
            x.shop(sort, 1 + random.nextInt(9), random.nextInt(200), sort * random.nextInt(9));
        }
        for (int i = random.nextInt(9); i >= 0; i--) {
            int man = x.man(random.nextInt(3), random.nextInt(10), 1 + random.nextInt(4));
            x.be(man, 3, random.nextInt(30));
            x.be(man, 4, random.nextInt(90));
            x.be(man, 5, random.nextInt(90));
        }
    }

    private static void act(TokenValley x, Random random) {
        int man = random.nextInt(x.count(1));
        switch (random.nextInt(9)) {
            case 0: x.draw(man, 1 + random.nextInt(99), random.nextInt(2)); break;
            case 1: x.strike(man, 1 + random.nextInt(99)); break;
            case 2: x.fine(man, 1 + random.nextInt(99), random.nextInt(5)); break;
            case 3: x.stop(man, 1 + random.nextInt(30), random.nextInt(5)); break;
            case 4: x.hear(man, random.nextInt(x.count(0))); break;
            case 5: x.shelf(random.nextInt(x.count(0)), 2, random.nextInt(200)); break;
            case 6: Due.text(x, TEXTS[random.nextInt(16)], x.count(11)); break;
            case 7: x.sell(random.nextInt(x.count(3)), man, random.nextInt(99)); break;
            default: x.pit(random.nextInt(3), 1, 60 + random.nextInt(60)); break;
        }
        if (random.nextInt(4) == 0) x.run(1 + random.nextInt(9));
    }

    private static void imageComesBack(TokenValley x, Random random, int seed) {
        x.keep();
        String before = Seen.kept(x);
        for (int i = 0; i < 5; i++) act(x, random);
        x.back();
        Due.due("seed " + seed + ": 55: all is as THE IMAGE", before.equals(Seen.kept(x)) ? 1 : 0, 1);
    }

    private static void daysAsTold(TokenValley x, Random random, int seed) {
        x.keep();
        int n = 1 + random.nextInt(28);
        for (int d = 0; d < n; d++) {
            x.run(1);
            x.tell(sum(x, 10));
            x.tell(sum(x, 11));
        }
        Due.due("seed " + seed + ": 53: THE DAYS TOLD", x.check(1, n, 0), 0);
        x.back();
    }

    private static void besideAsTold(TokenValley x, Random random, int seed) {
        if (x.count(6) >= 12) return;
        int n = 1 + random.nextInt(60);
        int[] told = {x.beside(n, 0), x.beside(n, 1), x.beside(n, 2)};
        x.keep();
        x.run(n);
        int[] here = {sum(x, 11), sum(x, 3), sum(x, 9)};
        x.back();
        Due.text(x, "coin 100", x.count(11));
        x.run(n);
        int[] there = {sum(x, 11), sum(x, 3), sum(x, 9)};
        x.back();
        for (int what = 0; what < 3; what++) {
            Due.due("seed " + seed + ": 28: beside " + what, told[what], there[what] - here[what]);
        }
    }

    /** WORTH is what PAY then gives, if the DAY of it brings nothing more: nobody digs, all have bread. */
    private static void payAsTold(TokenValley x, int seed) {
        x.keep();
        if (x.count(6) < 12) Due.text(x, "due 1", x.count(11));
        for (int man = 0; man < x.count(1); man++) {
            x.be(man, 1, 0);
            x.be(man, 3, 999);
        }
        x.pit(0, 1, 100);
        while (x.count(11) % 7 != 6) x.run(1);
        int men = x.count(1);
        int[][] told = new int[men][];
        for (int man = 0; man < men; man++) {
            told[man] = new int[] {x.worth(man, 1), x.worth(man, 2), x.worth(man, 6), x.is(man, 4), x.is(man, 5), x.is(man, 11)};
        }
        boolean paid = (x.count(11) / 7 + 1) % x.rules(2, x.count(11) / 7, 0, 0) == 0;
        boolean steady = x.rules(0, 0, 0, 0) == 0 && x.rules(0, 0, 5, 0) == 0;
        int[] gone = new int[men];
        for (int man = 0; man < men; man++) gone[man] = x.is(man, 9);
        x.run(1);
        for (int man = 0; man < men && paid && steady; man++) {
            if (gone[man] != 0) continue;
            Due.due("seed " + seed + ": 25: COIN", x.is(man, 4), Math.min(99999, told[man][3] + told[man][0]));
            Due.due("seed " + seed + ": 25: CHECKS", x.is(man, 5), Math.min(99999, told[man][4] + told[man][1]));
            Due.due("seed " + seed + ": 25: DEBT", x.is(man, 11), told[man][5] - told[man][2]);
            Due.due("seed " + seed + ": 13: EARNED", x.is(man, 10), 0);
        }
        x.back();
    }

    private static void withinBounds(TokenValley x, int seed) {
        for (int man = 0; man < x.count(1); man++) {
            for (int what = 3; what <= 5; what++) {
                boolean is = x.is(man, what) >= 0 && x.is(man, what) <= 99999;
                Due.due("seed " + seed + ": 8: 0 .. 99999", is ? 1 : 0, 1);
            }
            Due.due("8: GONE with HUNGER 9", x.is(man, 6) == 9 && x.is(man, 9) == 0 ? 1 : 0, 0);
        }
        for (int shop = 0; shop < x.count(0); shop++) Due.due("6: STOCK", x.sells(shop, 2) >= 0 ? 1 : 0, 1);
    }

    private static int sum(TokenValley x, int what) {
        int sum = 0;
        for (int man = 0; man < x.count(1); man++) sum += x.is(man, what);
        return sum;
    }

    private static int call(TokenValley x, int which, int[] v) {
        int a = v[0], b = v[1], c = v[2], d = v[3], e = v[4];
        switch (which) {
            case 0: return x.pit(a, b, c);
            case 1: return x.dug(a, b);
            case 2: return x.shop(a % 2, b, c, d);
            case 3: return x.shelf(a, b, c);
            case 4: return x.sells(a, b);
            case 5: return x.man(a, b, c);
            case 6: return x.is(a, b);
            case 7: return x.be(a, b, c);
            case 8: return x.known(a, b, c);
            case 9: return x.hear(a, b);
            case 10: return x.rule(a, b);
            case 11: return x.run(a);
            case 12: return x.draw(a, b, c);
            case 13: return x.strike(a, b);
            case 14: return x.fine(a, b, c);
            case 15: return x.stop(a, b, c);
            case 16: return x.let(a);
            case 17: return x.sell(a, b, c);
            case 18: return x.melt(a);
            case 19: return x.told(a, b);
            case 20: return x.as(a, b);
            case 21: return x.wrong(a);
            case 22: return x.give(a);
            case 23: return x.worth(a, b);
            case 24: return x.prove(a, b, c, d);
            case 25: return x.bound(a, b, c);
            case 26: return x.beside(a, b);
            case 27: return x.feed(a, b, c);
            case 28: return x.trim(a);
            case 29:
                if (e % 3 != 0) Due.tape(x, TEXTS[Math.floorMod(b, TEXTS.length)]);
                return x.text(a);
            case 30: return x.of(a, b);
            case 31: return x.why(a);
            case 32: return x.book(a, b, c);
            case 33: return x.rules(a, b, c, d);
            case 34: return x.note(a, b, c);
            case 35: return x.copy(a, b, c, d, e);
            case 36: return x.read(a, b);
            case 37: return x.end(a, b, c, d);
            case 38: return x.round();
            case 39: return x.way(a);
            case 40: return x.would(a, b);
            case 41: return x.breach(a, b, c);
            case 42: return x.seen(a);
            case 43: return x.at(a, b);
            case 44: return x.last(a, b);
            case 45: return x.least();
            case 46: return x.choice(a, b, c);
            case 47: return x.plan(a, b, c);
            case 48: return x.planned(a, b, c);
            case 49: return x.tell(a);
            case 50: return x.check(a, b, c);
            case 51: return x.keep();
            case 52: return x.back();
            case 53: return x.all(a, b) == 0 ? 0 : 1;
            default: return x.count(a);
        }
    }
}
