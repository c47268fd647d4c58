import java.lang.reflect.Method;
import java.util.ArrayList;
import java.util.List;
import java.util.Random;

/** Promises 1 to 56: runs of up to 512 calls (told by seeds), each answer of which is asked of the slow model, too. */
public final class ModelTest {
    private static final int[] EDGES = {
        Integer.MIN_VALUE, Integer.MIN_VALUE + 1, -32769, -32768, -1, 0, 1, 2, 3, 4, 5, 6, 7, 8, 9, 10, 11, 12, 13, 14, 15, 16, 28,
        29, 30, 31, 59, 60, 61, 96, 97, 98, 99, 100, 101, 150, 151, 255, 256, 999, 1000, 6999, 7000, 9999, 10000, 20000, 20001,
        32767, 32768, 65535, 99999, 100000, Integer.MAX_VALUE - 1, Integer.MAX_VALUE,
    };
    private static final String[] LIFE = {
        "run", "run", "run", "run", "run", "run", "draw", "strike", "fine", "fine", "stop", "let", "sell", "melt", "give", "give", "hear",
        "shelf", "shelf", "be", "be", "pit", "rule", "text", "text", "keep", "back", "beside", "beside", "check", "man", "worth", "prove",
        "bound", "wrong", "least", "last",
    };
    private static final String[] USUAL = {
        "wage t*3/2", "wage t+s-1", "wage t/2", "wage 9999", "wage 0-t", "stop e/4", "stop 7", "due 2", "due w", "due w/2+1", "due 99",
        "coin 0", "coin 50+w", "coin l/9", "coin w*10", "fine b>4", "fine 0", "fine a<20", "fine a-b", "keep b>0|d<90", "keep d<99",
        "keep d-b", "act m=1|p>2&t", "act p-t",
    };
    private static final String[] PLANS = {
        "choice", "plan", "planned", "check", "breach", "seen", "at", "end", "end", "round", "way", "would", "text", "run", "why", "keep", "back", "rules",
    };
    private static final String[] WORDS = {"text", "text", "text", "of", "why", "rules", "rules", "run", "feed", "trim", "count", "would", "back"};
    private static final String[] BOOKS = {"book", "note", "note", "note", "note", "note", "read", "read", "copy", "copy", "all", "keep", "back"};
    private static final String[] KEYS = {"wage", "stop", "due", "coin", "fine", "keep", "act"};
    private static final String[] NAMES = {"ts", "e", "w", "lw", "ab", "bd", "mpt"};

    private final Random random;
    private final TokenValley x = new TokenValley();
    private final Model y = new Model();
    private final List<String> made = new ArrayList<>();
    private boolean same = true;

    private ModelTest(long seed) {
        random = new Random(seed);
    }

    public static void main(String[] args) throws Exception {
        int turns = args.length > 0 ? Integer.parseInt(args[0]) : 60;
        int first = args.length > 1 ? Integer.parseInt(args[1]) : 1;
        for (int seed = first; seed < first + turns; seed++) {
            new ModelTest(seed).live(seed);
            new ModelTest(seed).go(seed, PLANS, 200);
            new ModelTest(seed).write(seed);
            new ModelTest(seed).keepBooks(seed);
            new ModelTest(seed).go(seed, names(), 512);
        }
        Due.end();
    }

    private static String[] names() {
        List<String> names = new ArrayList<>();
        for (Method m : TokenValley.class.getDeclaredMethods()) {
            if (java.lang.reflect.Modifier.isPublic(m.getModifiers())) names.add(m.getName());
        }
        names.sort(null);
        return names.toArray(new String[0]);
    }

    private int in(int low, int high) {
        return low + random.nextInt(high - low + 1);
    }

    private int edge() {
        return EDGES[random.nextInt(EDGES.length)];
    }

    private void write(int seed) throws Exception {
        ask("man", 0, 9, 1);
        ask("be", 0, 3, 99999);
        ask("keep");
        go(seed, WORDS, 400);
    }

    private void keepBooks(int seed) throws Exception {
        for (int pit = 0; pit < 4; pit++) if (in(0, 3) != 0) ask("book", pit, in(0, 1), in(1, 6));
        go(seed, BOOKS, 400);
    }

    private void live(int seed) throws Exception {
        for (int i = random.nextInt(9) == 0 ? in(1, 116) : 0; i > 0; i--) ask("run", 60);
        for (int i = in(0, 5); i >= 0; i--) {
            int sort = in(0, 1);
            ask("shop", sort, in(1, random.nextBoolean() ? 5 : 30), in(0, random.nextInt(3) == 0 ? 20 : 9999), sort * in(0, 9));
        }
        for (int i = in(0, 8); i >= 0; i--) {
            int man = ask("man", in(0, 2), in(0, 9), in(1, random.nextBoolean() ? 2 : 9));
            ask("be", man, 3, in(0, random.nextBoolean() ? 3 : 400));
            ask("be", man, 4, random.nextInt(6) == 0 ? in(99900, 99999) : in(0, 90));
            ask("be", man, 5, random.nextInt(6) == 0 ? in(99900, 99999) : in(0, 90));
        }
        go(seed, LIFE, 120);
    }

    private void go(int seed, String[] names, int calls) throws Exception {
        for (int i = 0; i < calls && same; i++) {
            String name = names[random.nextInt(names.length)];
            if (name.equals("text")) putTape();
            if (name.equals("check")) putNumbers();
            int[] a = args(name);
            if (a.length > 0 && random.nextInt(15) == 0) a[random.nextInt(a.length)] = edge();
            ask(name, a);
            if (same && i % 8 == 7) lookAtAll();
        }
        if (same) lookAtAll();
        Due.due("seed " + seed + ": answers as the model's", same ? 1 : 0, 1);
        if (!same) for (String call : made) System.out.println("    " + call);
    }

    /** Asks both; what they answer (the class's, if they differ). */
    private int ask(String name, int... a) throws Exception {
        Class<?>[] types = new Class<?>[a.length];
        Object[] values = new Object[a.length];
        for (int i = 0; i < a.length; i++) {
            types[i] = int.class;
            values[i] = a[i];
        }
        int got = (Integer) TokenValley.class.getMethod(name, types).invoke(x, values);
        int want = (Integer) Model.class.getDeclaredMethod(name, types).invoke(y, values);
        boolean asks = "is dug sells known told of why count worth read".contains(name);
        if (!asks || got != want) made.add(name + java.util.Arrays.toString(a) + ": " + got + (got == want ? "" : ", due is " + want));
        same &= got == want;
        return got;
    }

    private void lookAtAll() throws Exception {
        for (int what = 0; what <= 14; what++) ask("count", what);
        for (int pit = 0; pit < 8; pit++) for (int what = 0; what <= 5; what++) ask("dug", pit, what);
        for (int shop = 0; shop < y.count(0); shop++) for (int what = 0; what <= 3; what++) ask("sells", shop, what);
        for (int man = 0; man < y.count(1); man++) {
            for (int what = 0; what <= 13; what++) ask("is", man, what);
            for (int what = 0; what <= 8; what++) ask("worth", man, what);
            for (int shop = 0; shop < y.count(0); shop++) for (int what = 0; what <= 1; what++) ask("known", man, shop, what);
        }
        for (int due = 0; due < y.count(3); due++) for (int what = 0; what <= 7; what++) ask("told", due, what);
        for (int text = 0; text < y.count(6); text++) for (int what = 0; what <= 2; what++) ask("of", text, what);
        for (int key = 0; key < 7; key++) ask("why", key);
    }

    private void putTape() throws Exception {
        if (random.nextInt(20) == 0) return;
        String text = random.nextBoolean() ? USUAL[random.nextInt(USUAL.length)] : text();
        if (text.length() > 96) text = text.substring(0, 96);
        ask("trim", 0);
        for (int i = 0; i < text.length(); i += 12) {
            int[] a = new int[3];
            for (int k = 0; k < 12; k++) a[k / 4] = a[k / 4] << 8 | (i + k < text.length() ? text.charAt(i + k) & 255 : in(0, 255));
            ask("feed", a);
        }
        if (random.nextInt(30) != 0) ask("trim", text.length());
    }

    private String text() {
        int key = random.nextInt(7);
        StringBuilder t = new StringBuilder(KEYS[key]).append(' ');
        e(t, NAMES[key], in(0, random.nextInt(4) == 0 ? 10 : 4));
        for (int i = random.nextInt(3) == 0 ? in(1, 3) : 0; i > 0; i--) spoil(t);
        return t.toString();
    }

    private void e(StringBuilder t, String names, int depth) {
        if (random.nextInt(6) == 0) t.append(' ');
        int kind = depth <= 0 ? in(0, 1) : in(0, 7);
        if (kind == 0) {
            t.append(random.nextInt(in(1, 5) == 1 ? 10000 : 20));
        } else if (kind == 1) {
            t.append(names.charAt(random.nextInt(names.length())));
        } else if (kind == 2) {
            t.append('!');
            e(t, names, depth - 1);
        } else if (kind <= 4) {
            t.append('(');
            e(t, names, depth - 1);
            t.append(')');
        } else {
            e(t, names, depth - 2);
            t.append("|&<=>+-*/".charAt(random.nextInt(9)));
            e(t, names, depth - 2);
        }
        if (random.nextInt(6) == 0) t.append(' ');
    }

    private void spoil(StringBuilder t) {
        String some = "|&<=>+-*/!!!(((()) 1w9mab";
        char c = random.nextInt(6) == 0 ? (char) in(0, 255) : some.charAt(random.nextInt(some.length()));
        int at = random.nextInt(t.length() + 1);
        switch (random.nextInt(3)) {
            case 0: t.insert(at, c); break;
            case 1: if (at < t.length()) t.deleteCharAt(at); break;
            default: if (at < t.length()) t.setCharAt(at, c); break;
        }
    }

    /** Numbers that wait: right rows for the most part, as the class and the model find them. */
    private void putNumbers() throws Exception {
        for (int i = in(0, 3); i > 0 && random.nextInt(4) == 0; i--) ask("tell", in(0, 9));
    }

    private int[] args(String name) throws Exception {
        int man = in(0, Math.max(0, y.count(1) - 1)), shop = in(0, Math.max(0, y.count(0) - 1)), due = in(0, Math.max(0, y.count(3) - 1));
        switch (name) {
            case "pit": return random.nextBoolean() ? a(in(0, 3), 0, in(1, 99)) : a(in(0, 3), 1, in(1, 150));
            case "dug": return a(in(0, 7), in(0, 5));
            case "shop": return a(0, in(1, 99), in(0, 99999), 0);
            case "shelf": return random.nextBoolean() ? a(shop, 1, in(1, 30)) : a(shop, 2, in(0, 99));
            case "sells": return a(shop, in(0, 3));
            case "man": return a(in(0, 7), in(0, 9), in(1, 9));
            case "is": return a(man, in(0, 13));
            case "be": return be(man);
            case "known": return a(man, shop, in(0, 1));
            case "hear": return a(man, shop);
            case "rule": return rule();
            case "run": return a(random.nextInt(12) == 0 ? in(1, 60) : in(1, 7));
            case "draw": return a(man, in(1, random.nextBoolean() ? 40 : 999), in(0, 1));
            case "strike": return a(man, in(1, random.nextBoolean() ? 40 : 999));
            case "fine": case "stop": return a(man, in(1, random.nextBoolean() ? 40 : 999), in(0, random.nextBoolean() ? 1 : 9));
            case "sell": return a(checkOr(due), man, in(0, 99));
            case "melt": return a(checkOr(due));
            case "let": return a(due);
            case "told": return a(due, in(0, 7));
            case "as": return a(due, in(0, 6));
            case "wrong": case "give": return a(man);
            case "worth": return a(man, in(0, 8));
            case "prove": return prove();
            case "bound": return a(man, in(0, random.nextBoolean() ? 9999 : 999), in(1, random.nextBoolean() ? 4 : 99));
            case "beside": return a(in(1, 60), in(0, 2));
            default: return otherArgs(name);
        }
    }

    private int[] otherArgs(String name) throws Exception {
        switch (name) {
            case "feed": return a(random.nextInt(), random.nextInt(), random.nextInt());
            case "trim": return a(in(0, 96));
            case "text": return a(random.nextInt(4) == 0 ? in(0, 6999) : y.count(11) + in(0, 3));
            case "of": return a(in(0, 12), in(0, 2));
            case "why": return a(in(0, 6));
            case "rules": return a(in(0, 6), number(), number(), number());
            case "book": return a(in(0, 3), random.nextInt(6) == 0 ? -1 : in(0, 1), in(0, random.nextBoolean() ? 6 : 30));
            case "note": return note();
            case "read": return a(in(0, 3), in(0, 5));
            case "copy": return a(in(0, 3), in(0, 5), in(0, 3), in(0, 5), in(0, 4));
            case "all": return a(in(0, 6), in(0, 1));
            case "end": return a(in(0, 3), in(0, 3), in(0, 2), random.nextInt(3) == 0 ? 0 : 1);
            case "way": return a(in(0, 20));
            case "would": return a(in(0, 11), in(0, 1));
            case "breach": return a(in(0, 3), in(0, 3), in(2, 6));
            case "seen": return a(in(1, 5));
            case "at": return a(in(1, 5), in(0, 4));
            case "last": return a(in(0, 255), in(0, 1));
            case "choice": return a(in(0, random.nextBoolean() ? 40 : 999), in(0, 20), random.nextInt(4) == 0 ? 1 << in(0, 7) : in(0, 255) & in(0, 255) & ((1 << y.count(8)) - 1));
            case "plan": return a(in(0, 99), in(0, 20), random.nextInt(3) == 0 ? in(1, 60) : in(1, 20000));
            case "planned": return a(in(0, 99), in(0, 20), in(0, 8));
            case "tell": return a(random.nextInt());
            case "check": return check();
            case "count": return a(in(0, 14));
            default: return a();
        }
    }

    private static int[] a(int... values) {
        return values;
    }

    private int number() {
        return random.nextInt(3) == 0 ? edge() : random.nextBoolean() ? random.nextInt() : in(-5, 120);
    }

    private int[] note() {
        int pit = in(0, 3);
        int blank = y.sorts[pit] == 1 ? -32768 : Integer.MIN_VALUE;
        return a(pit, in(0, 5), random.nextInt(3) == 0 ? blank : number());
    }

    private int[] be(int man) {
        switch (random.nextInt(7)) {
            case 0: return a(man, 0, in(0, 3));
            case 1: return a(man, 1, in(0, 9));
            case 2: return a(man, 2, in(1, 9));
            case 3: return a(man, 4, in(0, 200));
            case 4: return a(man, 5, in(0, 200));
            default: return a(man, 3, in(0, random.nextBoolean() ? 10 : 200));
        }
    }

    private int[] rule() {
        switch (random.nextInt(3)) {
            case 0: return a(0, in(0, random.nextBoolean() ? 9999 : 300));
            case 1: return a(1, in(0, random.nextBoolean() ? 99999 : 3000));
            default: return a(2, in(0, random.nextBoolean() ? 9999 : 800));
        }
    }

    private int[] prove() {
        int low = in(1, 99);
        return a(in(0, 3), low, in(low, 99), in(0, 1));
    }

    private int checkOr(int due) {
        for (int i = due; i < y.count(3); i++) if (y.told(i, 0) == 3) return i;
        return due;
    }

    /** Tells the rows that are due (the model has them), now and then spoilt, one too few or too many. */
    private int[] check() throws Exception {
        int what = random.nextInt(8) == 0 || y.count(8) == 0 ? 1 : in(0, 1);
        int fund = what == 0 ? in(0, 99) : in(1, 28), income = in(0, 20);
        List<Integer> rows = new ArrayList<>();
        if (what == 0) {
            for (int i = 0; i < y.count(8); i++) rows.add(y.planned(fund, income, i));
            // weeks are not told by a call: those of the order, put again one by one
            rows = weeksOf(rows, fund, income);
        } else if (y.image != null) {
            Model.State to = y.image.copy();
            for (int d = 0; d < fund; d++) {
                Model.goBy(to, false);
                int earned = 0, owed = 0;
                for (Model.Man m : to.men) {
                    earned += (int) to.dues.get(m.wage).amount;
                    owed += (int) to.dues.get(m.debt).amount;
                }
                rows.add(earned);
                rows.add(owed);
            }
        }
        if (random.nextInt(3) == 0 && !rows.isEmpty()) rows.set(random.nextInt(rows.size()), in(0, 30));
        if (random.nextInt(6) == 0 && !rows.isEmpty()) rows.remove(rows.size() - 1);
        if (random.nextInt(6) == 0) rows.add(0);
        for (int v : rows) ask("tell", v);
        return a(what, fund, income);
    }

    private List<Integer> weeksOf(List<Integer> order, int fund, int income) {
        List<Integer> rows = new ArrayList<>();
        int week = 0, has = fund, gets = income;
        for (int c : order) {
            if (c < 0) return rows;
            int[] choice = y.s.choices.get(c);
            while (has < choice[0] && week < 1000) {
                has += gets;
                week++;
            }
            has -= choice[0];
            gets += choice[1];
            rows.add(c);
            rows.add(week);
        }
        return rows;
    }
}
