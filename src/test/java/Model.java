import java.util.ArrayList;
import java.util.Arrays;
import java.util.Collections;
import java.util.Comparator;
import java.util.List;

/**
 * The document once more, written as plainly and as slowly as it can be, with other means than the class uses:
 * objects that are copied, longs, lists, all orders and rounds gone through. ModelTest asks both the same.
 */
final class Model {
    static final int BAD = Due.BAD, NO = Due.NO, FULL = Due.FULL, SPENT = Due.SPENT, NONE = Due.NONE;
    static final int NOTHING = Due.NOTHING, KIND = Due.KIND, INDEX = Due.INDEX, SIZE = Due.SIZE;

    static final class Pit {
        long weight = 20, scale = 100, dug, told, tubs;
    }

    static final class Shop {
        int sort;
        long price, stock, road;
    }

    static final class Man {
        int pit, skill, need, hunger, wage, debt;
        long bread, coin, checks, bought, lost;
        boolean gone;
        /** By shops: price and day, or null. */
        final long[][] known = new long[6][];
    }

    static final class D {
        int kind, man, sort, day, state;
        Integer holder;
        long amount, stopped;
    }

    static final class Text {
        int key, day, size;
        Node e;
    }

    /** All that an image keeps. */
    static final class State {
        int day;
        long limit = 100, store, orders;
        Pit[] pits = new Pit[8];
        List<Shop> shops = new ArrayList<>();
        List<Man> men = new ArrayList<>();
        List<D> dues = new ArrayList<>();
        List<Text> texts = new ArrayList<>();
        List<int[]> ends = new ArrayList<>();
        List<int[]> breaches = new ArrayList<>();
        List<int[]> choices = new ArrayList<>();

        State() {
            for (int i = 0; i < 8; i++) pits[i] = new Pit();
        }

        State copy() {
            State s = new State();
            s.day = day;
            s.limit = limit;
            s.store = store;
            s.orders = orders;
            for (int i = 0; i < 8; i++) {
                s.pits[i].weight = pits[i].weight;
                s.pits[i].scale = pits[i].scale;
                s.pits[i].dug = pits[i].dug;
                s.pits[i].told = pits[i].told;
                s.pits[i].tubs = pits[i].tubs;
            }
            for (Shop o : shops) {
                Shop n = new Shop();
                n.sort = o.sort;
                n.price = o.price;
                n.stock = o.stock;
                n.road = o.road;
                s.shops.add(n);
            }
            for (Man o : men) s.men.add(copyOf(o));
            for (D o : dues) {
                D n = new D();
                n.kind = o.kind;
                n.man = o.man;
                n.sort = o.sort;
                n.day = o.day;
                n.state = o.state;
                n.holder = o.holder;
                n.amount = o.amount;
                n.stopped = o.stopped;
                s.dues.add(n);
            }
            s.texts.addAll(texts);
            s.ends.addAll(ends);
            s.breaches.addAll(breaches);
            s.choices.addAll(choices);
            return s;
        }

        private static Man copyOf(Man o) {
            Man n = new Man();
            n.pit = o.pit;
            n.skill = o.skill;
            n.need = o.need;
            n.hunger = o.hunger;
            n.wage = o.wage;
            n.debt = o.debt;
            n.bread = o.bread;
            n.coin = o.coin;
            n.checks = o.checks;
            n.bought = o.bought;
            n.lost = o.lost;
            n.gone = o.gone;
            for (int i = 0; i < 6; i++) n.known[i] = o.known[i] == null ? null : o.known[i].clone();
            return n;
        }
    }

    State s = new State();
    State image;
    final List<Integer> waiting = new ArrayList<>();
    final List<Integer> tape = new ArrayList<>();
    /** By pits: null is MISSING; a null within is BLANK. */
    final Integer[][] books = new Integer[8][];
    final int[] sorts = new int[8];

    private static int whole(long v) {
        if (v != (int) v) throw new IllegalStateException("beyond ints: " + v);
        return (int) v;
    }

    private static boolean in(long v, long low, long high) {
        return low <= v && v <= high;
    }

    private boolean isMan(int man) {
        return in(man, 0, s.men.size() - 1);
    }

    private boolean isShop(int shop) {
        return in(shop, 0, s.shops.size() - 1);
    }

    private boolean isDue(int due) {
        return in(due, 0, s.dues.size() - 1);
    }

    // ---- the valley

    int pit(int pit, int what, int v) {
        if (!in(pit, 0, 7)) return BAD;
        Pit p = s.pits[pit];
        long was;
        if (what == 0 && in(v, 1, 99)) {
            was = p.weight;
            p.weight = v;
        } else if (what == 1 && in(v, 1, 150)) {
            was = p.scale;
            p.scale = v;
        } else {
            return BAD;
        }
        return whole(was);
    }

    int dug(int pit, int what) {
        if (!in(pit, 0, 7) || !in(what, 0, 5)) return BAD;
        Pit p = s.pits[pit];
        long here = s.men.stream().filter(m -> m.pit == pit && !m.gone).count();
        return whole(new long[] {p.weight, p.scale, p.dug, p.told, p.tubs, here}[what]);
    }

    int shop(int sort, int price, int stock, int road) {
        if (sort != 0 && sort != 1 || !in(price, 1, 99) || !in(stock, 0, 99999) || !in(road, 0, 99)) return BAD;
        if (sort == 0 && road > 0) return BAD;
        if (s.shops.size() == 6) return FULL;
        Shop n = new Shop();
        n.sort = sort;
        n.price = price;
        n.stock = stock;
        n.road = road;
        s.shops.add(n);
        return s.shops.size() - 1;
    }

    int shelf(int shop, int what, int v) {
        if (!isShop(shop)) return BAD;
        Shop o = s.shops.get(shop);
        long was;
        if (what == 1 && in(v, 1, 99)) {
            was = o.price;
            o.price = v;
        } else if (what == 2 && in(v, 0, 99999)) {
            was = o.stock;
            o.stock = v;
        } else {
            return BAD;
        }
        return whole(was);
    }

    int sells(int shop, int what) {
        if (!isShop(shop) || !in(what, 0, 3)) return BAD;
        Shop o = s.shops.get(shop);
        return whole(new long[] {o.sort, o.price, o.stock, o.road}[what]);
    }

    int man(int pit, int skill, int need) {
        if (!in(pit, 0, 7) || !in(skill, 0, 9) || !in(need, 1, 9)) return BAD;
        if (s.men.size() == 12 || s.dues.size() + 2 > 60) return FULL;
        Man m = new Man();
        m.pit = pit;
        m.skill = skill;
        m.need = need;
        s.men.add(m);
        int number = s.men.size() - 1;
        m.wage = newDue(1, number, 0, 0, null);
        m.debt = newDue(6, number, 0, 0, null);
        return number;
    }

    private int newDue(int kind, int man, int amount, int sort, Integer holder) {
        D d = new D();
        d.kind = kind;
        d.man = man;
        d.amount = amount;
        d.sort = sort;
        d.day = s.day;
        d.holder = holder;
        s.dues.add(d);
        return s.dues.size() - 1;
    }

    int is(int man, int what) {
        if (!isMan(man) || !in(what, 0, 13)) return BAD;
        Man m = s.men.get(man);
        long[] all = {m.pit, m.skill, m.need, m.bread, m.coin, m.checks, m.hunger, m.bought, m.lost, m.gone ? 1 : 0,
            wage(s, m).amount, debt(s, m).amount, m.wage, m.debt};
        return whole(all[what]);
    }

    private static D wage(State s, Man m) {
        return s.dues.get(m.wage);
    }

    private static D debt(State s, Man m) {
        return s.dues.get(m.debt);
    }

    int be(int man, int what, int v) {
        if (!isMan(man)) return BAD;
        Man m = s.men.get(man);
        int was = is(man, what);
        if (what == 0 && in(v, 0, 7)) m.pit = v;
        else if (what == 1 && in(v, 0, 9)) m.skill = v;
        else if (what == 2 && in(v, 1, 9)) m.need = v;
        else if (what == 3 && in(v, 0, 99999)) m.bread = v;
        else if (what == 4 && in(v, 0, 99999)) m.coin = v;
        else if (what == 5 && in(v, 0, 99999)) m.checks = v;
        else return BAD;
        return was;
    }

    int known(int man, int shop, int what) {
        if (!isMan(man) || !isShop(shop) || what != 0 && what != 1) return BAD;
        long[] known = s.men.get(man).known[shop];
        return known == null ? NONE : whole(known[what]);
    }

    int hear(int man, int shop) {
        if (!isMan(man) || !isShop(shop)) return BAD;
        s.men.get(man).known[shop] = new long[] {s.shops.get(shop).price, s.day};
        return 1;
    }

    int rule(int what, int v) {
        long was;
        if (what == 0 && in(v, 0, 9999)) {
            was = s.limit;
            s.limit = v;
        } else if (what == 1 && in(v, 0, 99999)) {
            was = s.store;
            s.store = v;
        } else if (what == 2 && in(v, 0, 9999)) {
            was = s.orders;
            s.orders = v;
        } else {
            return BAD;
        }
        return whole(was);
    }

    int run(int n) {
        if (!in(n, 1, 60)) return BAD;
        if (s.day + n > 6999) return FULL;
        for (int i = 0; i < n; i++) goBy(s, false);
        return s.day;
    }

    static void goBy(State s, boolean allCoin) {
        for (Man m : s.men) {
            if (m.gone) continue;
            Pit p = s.pits[m.pit];
            long heavy = m.skill * p.weight;
            long told = heavy * p.scale / 100;
            long earns = rule(s, 0, told, m.skill, 0);
            wage(s, m).amount += earns;
            m.lost += rule(s, 0, heavy, m.skill, 0) - earns;
            p.dug += heavy;
            p.told += told;
            p.tubs += m.skill;
        }
        for (Man m : s.men) if (!m.gone) eat(s, m);
        news(s);
        if (s.day % 7 == 6) {
            int week = s.day / 7;
            boolean pays = (week + 1) % rule(s, 2, week, 0, 0) == 0;
            for (Man m : s.men) if (pays && !m.gone) pay(s, m, allCoin);
            for (Man m : s.men) if (!m.gone && rule(s, 5, m.bought, debt(s, m).amount, 0) == 0) m.gone = true;
            for (Man m : s.men) m.bought = 0;
        }
        s.day++;
    }

    /** Loaf by loaf. */
    private static void eat(State s, Man m) {
        for (int i = 0; i < s.shops.size(); i++) {
            Shop o = s.shops.get(i);
            while (o.sort == 0 && m.bread < m.need && m.checks >= o.price && o.stock > 0) {
                m.checks -= o.price;
                m.bought++;
                loaf(s, m, i);
            }
        }
        int town = -1;
        long lacks = m.need - m.bread;
        for (int i = 0; i < s.shops.size() && lacks > 0; i++) {
            if (s.shops.get(i).sort != 1 || m.known[i] == null) continue;
            if (town < 0 || cost(s, m, i, lacks) < cost(s, m, town, lacks)) town = i;
        }
        if (town >= 0) {
            Shop o = s.shops.get(town);
            if (m.coin - o.road >= o.price && o.stock > 0) {
                m.coin -= o.road;
                while (m.bread < m.need && m.coin >= o.price && o.stock > 0) {
                    m.coin -= o.price;
                    loaf(s, m, town);
                }
            }
        }
        for (int i = 0; i < s.shops.size(); i++) {
            Shop o = s.shops.get(i);
            while (o.sort == 0 && m.bread < m.need && debt(s, m).amount + o.price <= s.limit && o.stock > 0) {
                debt(s, m).amount += o.price;
                m.bought++;
                loaf(s, m, i);
            }
        }
        if (m.bread >= m.need) {
            m.bread -= m.need;
            if (m.hunger > 0) m.hunger--;
        } else {
            m.bread = 0;
            m.hunger++;
        }
        if (m.hunger == 9) m.gone = true;
    }

    private static long cost(State s, Man m, int shop, long lacks) {
        return m.known[shop][0] * lacks + s.shops.get(shop).road;
    }

    private static void loaf(State s, Man m, int shop) {
        m.bread++;
        s.shops.get(shop).stock--;
        m.known[shop] = new long[] {s.shops.get(shop).price, s.day};
    }

    private static void news(State s) {
        List<long[][]> then = new ArrayList<>();
        for (Man m : s.men) {
            long[][] hears = m.known.clone();
            for (int shop = 0; shop < s.shops.size() && !m.gone; shop++) {
                long[] best = null;
                for (Man o : s.men) {
                    if (o.gone || o.pit != m.pit || o.known[shop] == null) continue;
                    if (best == null || o.known[shop][1] > best[1]) best = o.known[shop];
                }
                hears[shop] = best;
            }
            then.add(hears);
        }
        for (int i = 0; i < s.men.size(); i++) {
            for (int shop = 0; shop < 6; shop++) {
                long[] k = then.get(i)[shop];
                s.men.get(i).known[shop] = k == null ? null : k.clone();
            }
        }
    }

    /** LEFT, COIN, CHECKS, and what DRAWS, FINES, STOPS, DEBT took. */
    private static long[] pay(State s, Man m, boolean allCoin) {
        long earned = wage(s, m).amount;
        long left = earned;
        long[] took = new long[7];
        for (int group = 3; group <= 5; group++) {
            long together = group == 5 ? rule(s, 1, earned, 0, 0) : Long.MAX_VALUE;
            for (D d : s.dues) {
                boolean fits = group == 3 ? d.kind == 2 || d.kind == 3 : group == 4 ? d.kind == 4 : d.kind == 5;
                if (!fits || s.men.get(d.man) != m || d.state != 0) continue;
                long goes = Math.min(Math.min(d.amount, left), together);
                left -= goes;
                together -= goes;
                took[group] += goes;
                if (group == 4) d.amount = goes;
                if (group == 5) d.stopped += goes;
                else d.state = 1;
            }
        }
        took[6] = Math.min(left, debt(s, m).amount);
        debt(s, m).amount -= took[6];
        left -= took[6];
        took[0] = left;
        took[1] = left * (allCoin ? 100 : rule(s, 3, left, s.day / 7, 0)) / 100;
        took[2] = left - took[1];
        m.coin = Math.min(99999, m.coin + took[1]);
        m.checks = Math.min(99999, m.checks + took[2]);
        wage(s, m).amount = 0;
        return took;
    }

    // ---- dues

    private int dueRefused(int man, int amount, int sort, int mostSort) {
        if (!isMan(man) || !in(amount, 1, 999) || !in(sort, 0, mostSort)) return BAD;
        if (s.men.get(man).gone) return NO;
        return s.dues.size() == 60 ? FULL : 0;
    }

    int draw(int man, int amount, int sort) {
        int no = dueRefused(man, amount, sort, 1);
        if (no != 0) return no;
        Man m = s.men.get(man);
        if (sort == 0) m.checks = Math.min(99999, m.checks + amount);
        if (sort == 1) m.coin = Math.min(99999, m.coin + amount);
        return newDue(2, man, amount, sort, null);
    }

    int strike(int man, int amount) {
        int no = dueRefused(man, amount, 0, 0);
        return no != 0 ? no : newDue(3, man, amount, 0, man);
    }

    int fine(int man, int amount, int sort) {
        int no = dueRefused(man, amount, sort, 9);
        return no != 0 ? no : newDue(4, man, amount, sort, null);
    }

    int stop(int man, int amount, int sort) {
        int no = dueRefused(man, amount, sort, 9);
        return no != 0 ? no : newDue(5, man, amount, sort, null);
    }

    int let(int due) {
        if (!isDue(due)) return BAD;
        D d = s.dues.get(due);
        if (d.kind != 4 && d.kind != 5) return KIND;
        if (d.state != 0) return NO;
        d.state = d.kind == 4 ? 2 : 1;
        return 1;
    }

    int sell(int due, int man, int discount) {
        if (!isDue(due) || !isMan(man) || !in(discount, 0, 99)) return BAD;
        D d = s.dues.get(due);
        if (d.kind != 3) return KIND;
        if (d.holder == null || d.holder == man) return NO;
        long pays = d.amount - d.amount * discount / 100;
        Man buyer = s.men.get(man), seller = s.men.get(d.holder);
        if (buyer.coin < pays) return NO;
        buyer.coin -= pays;
        seller.coin = Math.min(99999, seller.coin + pays);
        d.holder = man;
        return whole(pays);
    }

    int melt(int due) {
        if (!isDue(due)) return BAD;
        D d = s.dues.get(due);
        if (d.kind != 3) return KIND;
        if (d.holder == null) return NO;
        Man m = s.men.get(d.holder);
        m.checks = Math.min(99999, m.checks + d.amount);
        d.holder = null;
        return whole(m.checks);
    }

    int told(int due, int what) {
        if (!isDue(due) || !in(what, 0, 7)) return BAD;
        D d = s.dues.get(due);
        return whole(new long[] {d.kind, d.man, d.amount, d.sort, d.day, d.state, d.holder == null ? NONE : d.holder, d.stopped}[what]);
    }

    int as(int due, int kind) {
        if (!isDue(due) || !in(kind, 0, 6)) return BAD;
        int[][] alsoAre = {{0}, {0, 1}, {0, 1, 2}, {0, 1, 2, 3}, {0, 4}, {0, 5}, {0, 6}};
        D d = s.dues.get(due);
        return Arrays.stream(alsoAre[d.kind]).anyMatch(k -> k == kind) ? whole(d.amount) : KIND;
    }

    private List<D> wrongOnes(int man) {
        List<D> wrong = new ArrayList<>();
        for (D d : s.dues) {
            if (d.kind == 4 && d.man == man && d.state == 1 && d.amount > 0 && rule(s, 4, d.amount, d.sort, 0) == 0) wrong.add(d);
        }
        return wrong;
    }

    int wrong(int man) {
        return isMan(man) ? whole(wrongOnes(man).stream().mapToLong(d -> d.amount).sum()) : BAD;
    }

    int give(int man) {
        if (!isMan(man)) return BAD;
        int all = wrong(man);
        List<D> wrong = wrongOnes(man);
        if (wrong.isEmpty()) return NO;
        Man m = s.men.get(man);
        for (D d : wrong) {
            d.state = 2;
            m.coin = Math.min(99999, m.coin + d.amount);
        }
        return all;
    }

    int worth(int man, int what) {
        if (!isMan(man) || !in(what, 0, 8)) return BAD;
        State other = s.copy();
        long[] took = pay(other, other.men.get(man), false);
        if (what < 7) return whole(took[what]);
        long most = 0;
        for (Shop o : s.shops) {
            if (what == 7 && o.sort == 0) most = Math.max(most, took[0] / o.price);
            if (what == 8 && o.sort == 1 && took[0] >= o.road) most = Math.max(most, (took[0] - o.road) / o.price);
        }
        return whole(most);
    }

    int prove(int pit, int low, int high, int what) {
        if (!in(pit, 0, 7) || !in(low, 1, 99) || !in(high, low, 99) || what != 0 && what != 1) return BAD;
        Pit p = s.pits[pit];
        if (p.tubs == 0) return NONE;
        return whole(p.told * 100 / (p.tubs * (what == 0 ? high : low)));
    }

    int bound(int man, int pence, int weeks) {
        if (!isMan(man) || !in(pence, 0, 9999) || !in(weeks, 1, 99)) return BAD;
        for (Shop o : s.shops) {
            if (o.sort != 0) continue;
            Man m = s.men.get(man);
            long owes = debt(s, m).amount;
            int till = weeks;
            for (int week = 1; week <= 1000; week++) {
                owes += o.price * m.need * 7;
                till--;
                if (till == 0) {
                    owes = owes > pence ? owes - pence : 0;
                    till = weeks;
                }
                if (owes == 0) return week;
            }
            return NONE;
        }
        return NONE;
    }

    int beside(int n, int what) {
        if (!in(n, 1, 60) || !in(what, 0, 2)) return BAD;
        if (s.day + n > 6999) return FULL;
        State there = s.copy(), here = s.copy();
        for (int i = 0; i < n; i++) {
            goBy(there, true);
            goBy(here, false);
        }
        return whole(stands(there, what) - stands(here, what));
    }

    private static long stands(State s, int what) {
        long sum = 0;
        for (Man m : s.men) sum += what == 0 ? debt(s, m).amount : what == 1 ? m.bread : m.gone ? 1 : 0;
        return sum;
    }

    // ---- rules

    /** A tree: a number, a name by its place, or a sign with one or two parts. */
    static final class Node {
        final char sign;
        final int value;
        final Node left, right;

        Node(char sign, int value, Node left, Node right) {
            this.sign = sign;
            this.value = value;
            this.left = left;
            this.right = right;
        }

        int work(int[] names) {
            if (sign == 'n') return value;
            if (sign == 'v') return names[value];
            int x = left.work(names);
            if (sign == '!') return x == 0 ? 1 : 0;
            int y = right.work(names);
            boolean test;
            switch (sign) {
                case '+': return (int) ((long) x + y);
                case '-': return (int) ((long) x - y);
                case '*': return (int) ((long) x * y);
                case '/': return y == 0 ? 0 : (int) ((long) x / y);
                case '<': test = x < y; break;
                case '>': test = x > y; break;
                case '=': test = x == y; break;
                case '&': test = x != 0 & y != 0; break;
                default: test = x != 0 | y != 0; break;
            }
            return test ? 1 : 0;
        }
    }

    private static final List<String> KEYS = List.of("wage", "stop", "due", "coin", "fine", "keep", "act");
    private static final List<String> NAMES = List.of("ts", "e", "w", "lw", "ab", "bd", "mpt");

    static long rule(State s, int key, long a, long b, long c) {
        Text t = counts(s, key);
        long v;
        if (t != null) v = t.e.work(new int[] {(int) a, (int) b, (int) c});
        else v = new long[] {a, 9999, 1, 100, 1, 1, 0}[key];
        if (key <= 1) return Math.max(0, Math.min(9999, v));
        if (key == 2) return Math.max(1, Math.min(99, v));
        if (key == 3) return Math.max(0, Math.min(100, v));
        return v;
    }

    private static Text counts(State s, int key) {
        List<Text> fit = new ArrayList<>();
        for (Text t : s.texts) if (t.key == key && t.day <= s.day) fit.add(t);
        // a stable sort: of several with one DAY the greatest number stands last
        fit.sort(Comparator.comparingInt(t -> t.day));
        return fit.isEmpty() ? null : fit.get(fit.size() - 1);
    }

    int feed(int a, int b, int c) {
        if (tape.size() + 12 > 96) return FULL;
        for (int number : new int[] {a, b, c}) {
            for (int i = 3; i >= 0; i--) tape.add((int) ((number & 0xffffffffL) / (1L << 8 * i) % 256));
        }
        return tape.size();
    }

    int trim(int n) {
        if (!in(n, 0, tape.size())) return BAD;
        while (tape.size() > n) tape.remove(tape.size() - 1);
        return n;
    }

    /** Words and signs of a tape: each text, where it begins, and whether a blank is lacking ahead of it. */
    private static final class Tokens {
        final List<String> texts = new ArrayList<>();
        final List<Integer> from = new ArrayList<>();
        final List<Boolean> lacksBlank = new ArrayList<>();
        final int end;
        int next;

        Tokens(String tape) {
            end = tape.length();
            java.util.regex.Matcher m = java.util.regex.Pattern.compile("[a-z]+|[0-9]+|[^ ]", java.util.regex.Pattern.DOTALL).matcher(tape);
            int behindWord = -1;
            while (m.find()) {
                boolean word = m.group().matches("[a-z]+|[0-9]+");
                texts.add(m.group());
                from.add(m.start());
                lacksBlank.add(word && m.start() == behindWord);
                behindWord = word ? m.end() : -1;
            }
        }

        int place(int i) {
            return i < texts.size() ? from.get(i) : end;
        }
    }

    /** Goes through the tokens with a stack of what is open, building nothing; the number of the wrong token, or -1. */
    private static int wrongToken(Tokens t) {
        if (t.texts.isEmpty() || !KEYS.contains(t.texts.get(0))) return 0;
        String names = NAMES.get(KEYS.indexOf(t.texts.get(0)));
        StringBuilder open = new StringBuilder();
        List<Boolean> tested = new ArrayList<>(List.of(false));
        boolean wantsPart = true;
        for (int i = 1; i < t.texts.size(); i++) {
            String w = t.texts.get(i);
            int top = tested.size() - 1;
            if (t.lacksBlank.get(i)) return i;
            if (wantsPart) {
                boolean number = w.matches("[0-9]{1,4}");
                boolean name = w.matches("[a-z]") && names.contains(w);
                if (w.equals("!") && many(open, '!') < 8) {
                    open.append('!');
                } else if (w.equals("(") && many(open, '(') < 8) {
                    open.append('(');
                    tested.add(false);
                } else if (number || name) {
                    wantsPart = false;
                    closeNots(open);
                } else {
                    return i;
                }
            } else if (w.equals(")") && many(open, '(') > 0) {
                open.setLength(open.length() - 1);
                tested.remove(top);
                closeNots(open);
            } else if (w.equals("|") || w.equals("&")) {
                tested.set(top, false);
                wantsPart = true;
            } else if (w.equals("<") || w.equals("=") || w.equals(">")) {
                if (tested.get(top)) return i;
                tested.set(top, true);
                wantsPart = true;
            } else if (w.matches("[-+*/]")) {
                wantsPart = true;
            } else {
                return i;
            }
        }
        return wantsPart || many(open, '(') > 0 ? t.texts.size() : -1;
    }

    private static int many(StringBuilder open, char sign) {
        return (int) open.chars().filter(c -> c == sign).count();
    }

    private static void closeNots(StringBuilder open) {
        while (open.length() > 0 && open.charAt(open.length() - 1) == '!') open.setLength(open.length() - 1);
    }

    private static final String[] LEVELS = {"|", "&", "<=>", "+-", "*/"};

    private static Node tree(Tokens t, String names, int level) {
        if (level == LEVELS.length) {
            String w = t.texts.get(t.next++);
            if (w.equals("!")) return new Node('!', 0, tree(t, names, level), null);
            if (!w.equals("(")) {
                return Character.isDigit(w.charAt(0)) ? new Node('n', Integer.parseInt(w), null, null) : new Node('v', names.indexOf(w), null, null);
            }
            Node inner = tree(t, names, 0);
            t.next++;
            return inner;
        }
        Node left = tree(t, names, level + 1);
        while (t.next < t.texts.size() && LEVELS[level].contains(t.texts.get(t.next))) {
            char sign = t.texts.get(t.next++).charAt(0);
            left = new Node(sign, 0, left, tree(t, names, level + 1));
        }
        return left;
    }

    int text(int day) {
        StringBuilder all = new StringBuilder();
        for (int b : tape) all.append((char) b);
        tape.clear();
        if (!in(day, 0, 6999)) return BAD;
        Tokens t = new Tokens(all.toString());
        int wrong = wrongToken(t);
        if (wrong >= 0) return -100 - t.place(wrong);
        if (s.texts.size() == 12) return FULL;
        Text n = new Text();
        n.key = KEYS.indexOf(t.texts.get(0));
        n.day = day;
        t.next = 1;
        n.e = tree(t, NAMES.get(n.key), 0);
        for (String w : t.texts.subList(1, t.texts.size())) if (w.matches("[a-z0-9]+")) n.size++;
        s.texts.add(n);
        return s.texts.size() - 1;
    }

    int of(int text, int what) {
        if (!in(text, 0, s.texts.size() - 1) || !in(what, 0, 2)) return BAD;
        Text t = s.texts.get(text);
        return new int[] {t.key, t.day, t.size}[what];
    }

    int why(int key) {
        if (!in(key, 0, 6)) return BAD;
        Text t = counts(s, key);
        return t == null ? NONE : s.texts.indexOf(t);
    }

    int rules(int key, int a, int b, int c) {
        return in(key, 0, 6) ? (int) rule(s, key, a, b, c) : BAD;
    }

    // ---- books

    int book(int pit, int sort, int n) {
        if (!in(pit, 0, 7) || !in(sort, -1, 1)) return BAD;
        if (sort == -1) {
            books[pit] = null;
            return 0;
        }
        if (n > 30) return BAD;
        if (n < 0) return SIZE;
        books[pit] = new Integer[n];
        Arrays.fill(books[pit], 0);
        sorts[pit] = sort;
        return n;
    }

    int note(int pit, int week, int v) {
        if (!in(pit, 0, 7)) return BAD;
        if (books[pit] == null) return NOTHING;
        if (!in(week, 0, books[pit].length - 1)) return INDEX;
        int kept = sorts[pit] == 1 ? (short) (v & 0xffff) : v;
        int blank = sorts[pit] == 1 ? -32768 : Integer.MIN_VALUE;
        books[pit][week] = kept == blank ? null : Integer.valueOf(kept);
        return 1;
    }

    private Integer number(int pit, int week) {
        return books[pit][week] != null || week == 0 ? books[pit][week] : number(pit, week - 1);
    }

    int read(int pit, int week) {
        if (!in(pit, 0, 7)) return BAD;
        if (books[pit] == null) return NOTHING;
        if (!in(week, 0, books[pit].length - 1)) return INDEX;
        Integer v = number(pit, week);
        return v == null ? KIND : v;
    }

    int copy(int from, int week, int to, int at, int many) {
        if (!in(from, 0, 7) || !in(to, 0, 7)) return BAD;
        if (books[from] == null || books[to] == null) return NOTHING;
        if (sorts[from] != sorts[to]) return KIND;
        if (many < 0 || week < 0 || at < 0) return INDEX;
        if ((long) week + many > books[from].length || (long) at + many > books[to].length) return INDEX;
        Integer[] were = Arrays.copyOfRange(books[from], week, week + many);
        for (int i = 0; i < many; i++) books[to][at + i] = were[i];
        return many;
    }

    int all(int week, int what) {
        if (week < 0 || what != 0 && what != 1) return BAD;
        long sum = 0;
        int not = 0;
        for (int pit = 0; pit < 8; pit++) {
            Integer v = books[pit] == null || week >= books[pit].length ? null : number(pit, week);
            if (v == null) not++;
            else sum += v;
        }
        return what == 0 ? (int) sum : not;
    }

    // ---- ways, inspectors, strikes, choices

    private boolean ends(int m, int p, int t) {
        return s.ends.stream().anyMatch(e -> e[0] == m && e[1] == p && e[2] == t);
    }

    int end(int m, int p, int t, int is) {
        if (!in(m, 0, 3) || !in(p, 0, 3) || !in(t, 0, 2) || is != 0 && is != 1) return BAD;
        int was = ends(m, p, t) ? 1 : 0;
        s.ends.removeIf(e -> e[0] == m && e[1] == p && e[2] == t);
        if (is == 1) s.ends.add(new int[] {m, p, t});
        return was;
    }

    private List<Integer> inRound() {
        List<Integer> ways = new ArrayList<>();
        for (int[] e : s.ends) if (rule(s, 6, e[0], e[1], e[2]) == 0) ways.add(100 * e[0] + 10 * e[1] + e[2]);
        Collections.sort(ways);
        return ways;
    }

    int round() {
        return inRound().size();
    }

    int way(int i) {
        if (i < 0) return BAD;
        List<Integer> ways = inRound();
        return i < ways.size() ? ways.get(i) : NONE;
    }

    int would(int text, int what) {
        if (!in(text, 0, s.texts.size() - 1) || what != 0 && what != 1) return BAD;
        Text x = s.texts.get(text);
        if (x.key != 6) return KIND;
        List<Integer> ways = inRound();
        int many = 0;
        for (int i = 0; i < 333; i++) {
            int m = i / 100, p = i / 10 % 10, t = i % 10;
            if (p > 3 || t > 2) continue;
            boolean asked = what == 0 ? ways.contains(i) : !ends(m, p, t);
            if (asked && x.e.work(new int[] {m, p, t}) != 0) many++;
        }
        return many;
    }

    int breach(int place, int from, int to) {
        if (!in(place, 0, 3) || !in(from, 0, 6) || !in(to, from, 6)) return BAD;
        if (s.breaches.size() == 16) return FULL;
        s.breaches.add(new int[] {place, from, to});
        return s.breaches.size() - 1;
    }

    /** The round, by days, and how many it sees, last. */
    private int[] bestRound(int n) {
        int[] best = null;
        int[] at = new int[n + 1];
        for (int code = 0; code < 1 << 2 * n; code++) {
            for (int d = 0; d < n; d++) at[d] = code >> 2 * (n - 1 - d) & 3;
            at[n] = 0;
            for (int[] b : s.breaches) {
                boolean seen = false;
                for (int d = 0; d < n; d++) seen |= at[d] == b[0] && d >= b[1] && d <= b[2];
                if (seen) at[n]++;
            }
            if (best == null || at[n] > best[n]) best = at.clone();
        }
        return best;
    }

    int seen(int n) {
        return in(n, 1, 7) ? bestRound(n)[n] : BAD;
    }

    int at(int n, int day) {
        return in(n, 1, 7) && in(day, 0, n - 1) ? bestRound(n)[day] : BAD;
    }

    private long menLast(int pits) {
        long price = 0;
        for (Shop o : s.shops) if (o.sort == 1 && (price == 0 || o.price < price)) price = o.price;
        List<Long> days = new ArrayList<>();
        for (Man m : s.men) {
            if (m.gone || (pits & 1 << m.pit) == 0) continue;
            days.add((m.bread + (price == 0 ? 0 : m.coin / price)) / m.need);
        }
        return days.isEmpty() ? 999 : Collections.min(days);
    }

    private long companyLasts(int pits) {
        long gets = 0;
        for (Man m : s.men) if (!m.gone && (pits & 1 << m.pit) == 0) gets += m.skill * s.pits[m.pit].weight;
        long lacks = s.orders - gets;
        return lacks <= 0 ? 999 : Math.min(999, s.store / lacks);
    }

    int last(int pits, int what) {
        if (!in(pits, 0, 255) || what != 0 && what != 1) return BAD;
        return whole(what == 0 ? menLast(pits) : companyLasts(pits));
    }

    int least() {
        for (int size = 1; size <= 8; size++) {
            for (int pits = 1; pits < 256; pits++) {
                if (Integer.bitCount(pits) == size && companyLasts(pits) < menLast(pits)) return pits;
            }
        }
        return NONE;
    }

    int choice(int cost, int gain, int ahead) {
        if (!in(cost, 0, 999) || !in(gain, 0, 99) || !in(ahead, 0, 255)) return BAD;
        if (s.choices.size() == 8) return FULL;
        s.choices.add(new int[] {cost, gain, ahead});
        return s.choices.size() - 1;
    }

    /** Number and week of each in turn of the best order; null: none; empty and spent: too many tries. */
    private static final class Order {
        final List<int[]> choices;
        final int most;
        int tries;
        List<int[]> best;
        boolean spent;

        Order(List<int[]> choices, int most) {
            this.choices = choices;
            this.most = most;
        }

        void go(List<int[]> rows, long fund, long income) {
            int n = choices.size();
            int week = rows.isEmpty() ? 0 : rows.get(rows.size() - 1)[1];
            if (rows.size() == n && (best == null || n > 0 && week < best.get(n - 1)[1])) best = new ArrayList<>(rows);
            for (int c = 0; c < n && !spent; c++) {
                int had = 0;
                long gets = income;
                for (int[] r : rows) {
                    had |= 1 << r[0];
                    gets += choices.get(r[0])[1];
                }
                int[] choice = choices.get(c);
                if ((had & 1 << c) != 0 || (had & choice[2]) != choice[2]) continue;
                if (++tries > most) {
                    spent = true;
                    return;
                }
                long has = fund;
                int w = week;
                for (; has < choice[0] && w <= 999; w++) has += gets;
                if (w > 999) continue;
                rows.add(new int[] {c, w});
                go(rows, has - choice[0], income);
                rows.remove(rows.size() - 1);
            }
        }
    }

    private Order order(int fund, int income, int tries) {
        Order o = new Order(s.choices, tries);
        o.go(new ArrayList<>(), fund, income);
        return o;
    }

    private static int refused(Order o) {
        return o.spent ? SPENT : o.best == null ? NO : 0;
    }

    int plan(int fund, int income, int tries) {
        if (!in(fund, 0, 9999) || !in(income, 0, 99) || !in(tries, 1, 20000)) return BAD;
        Order o = order(fund, income, tries);
        if (refused(o) != 0) return refused(o);
        return o.best.isEmpty() ? 0 : o.best.get(o.best.size() - 1)[1];
    }

    int planned(int fund, int income, int i) {
        if (!in(fund, 0, 9999) || !in(income, 0, 99) || i < 0) return BAD;
        Order o = order(fund, income, 20000);
        if (refused(o) != 0) return refused(o);
        return i < o.best.size() ? o.best.get(i)[0] : NONE;
    }

    // ---- rows, images

    int tell(int v) {
        if (waiting.size() == 60) return FULL;
        waiting.add(v);
        return waiting.size();
    }

    int check(int what, int fund, int income) {
        List<Integer> told = new ArrayList<>(waiting);
        waiting.clear();
        List<Integer> rows = new ArrayList<>();
        if (what == 0) {
            if (!in(fund, 0, 9999) || !in(income, 0, 99)) return BAD;
            Order o = order(fund, income, 20000);
            if (refused(o) != 0) return refused(o);
            for (int[] r : o.best) rows.addAll(List.of(r[0], r[1]));
        } else if (what == 1) {
            if (!in(fund, 1, 28)) return BAD;
            if (image == null) return NO;
            State to = image.copy();
            for (int i = 0; i < fund; i++) {
                goBy(to, false);
                long earned = 0;
                for (Man m : to.men) earned += wage(to, m).amount;
                rows.addAll(List.of(whole(earned), whole(stands(to, 0))));
            }
        } else {
            return BAD;
        }
        if (told.equals(rows)) return 0;
        int same = 0;
        while (same < told.size() && same < rows.size() && told.get(same).equals(rows.get(same))) same++;
        return 1 + same;
    }

    int keep() {
        image = s.copy();
        return s.day;
    }

    int back() {
        if (image == null) return NO;
        s = image.copy();
        return s.day;
    }

    int count(int what) {
        switch (what) {
            case 0: return s.shops.size();
            case 1: return s.men.size();
            case 2: return (int) s.men.stream().filter(m -> m.gone).count();
            case 3: return s.dues.size();
            case 4: return (int) s.dues.stream().filter(d -> d.state == 0).count();
            case 5: return (int) s.dues.stream().filter(d -> d.holder != null).count();
            case 6: return s.texts.size();
            case 7: return s.breaches.size();
            case 8: return s.choices.size();
            case 9: return waiting.size();
            case 10: return tape.size();
            case 11: return s.day;
            case 12: return s.day / 7;
            case 13: return whole(s.men.stream().mapToLong(m -> m.coin).sum());
            case 14: return whole(s.men.stream().mapToLong(m -> m.checks).sum());
            default: return BAD;
        }
    }
}
