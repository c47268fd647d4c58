/** The sentences of the document's term 2 that name an edge, in its order; each with the promise that shows it. */
public final class TermsOfRulesTest {
    private static final int BAD = Due.BAD, FULL = Due.FULL, NONE = Due.NONE;
    private static final String[] KEYS = {"wage", "stop", "due", "coin", "fine", "keep", "act"};
    private static final String[] NAMES = {"ts", "e", "w", "lw", "ab", "bd", "mpt"};

    public static void main(String[] args) {
        texts();
        inForce();
        tape();
        usedUp();
        keys();
        loosestFirst();
        manyAndOne();
        numbers();
        names();
        words();
        signs();
        blanks();
        needsBlank();
        tooSoon();
        ninthParenthesis();
        ninthNot();
        eachByItself();
        wraps();
        truth();
        counts();
        without();
        held();
        Due.end();
    }

    private static void due(String call, long got, long want) {
        Due.due(call, got, want);
    }

    private static void good(String text) {
        due("'" + text + "'", Due.text(new TokenValley(), text, 0), 0);
    }

    private static void fault(String text, int place) {
        due("'" + text + "'", Due.text(new TokenValley(), text, 0), -100 - place);
    }

    /** What E gives, as an act of m, p, t. */
    private static int value(String e, int m, int p, int t) {
        TokenValley x = new TokenValley();
        due("'" + e + "'", Due.text(x, "act " + e, 0), 0);
        return x.rules(6, m, p, t);
    }

    private static String times(String part, int many) {
        return part.repeat(many);
    }

    private static void texts() {
        Due.says(31, "TEXTS, 12 at most, numbered from 0");
        TokenValley x = new TokenValley();
        due("none at first", x.of(0, 0), BAD);
        for (int i = 0; i < 12; i++) {
            due("number", Due.text(x, "due " + i, i), i);
            due("not yet the next one", x.of(i + 1, 0), BAD);
        }
        due("the thirteenth", Due.text(x, "due 1", 0), FULL);
        due("twelve", x.count(6), 12);
    }

    private static void inForce() {
        Due.says(31, "each in force from a DAY on");
        TokenValley x = new TokenValley();
        due("DAY -1", Due.text(x, "due 2", -1), BAD);
        due("DAY 7000", Due.text(x, "due 2", 7000), BAD);
        due("DAY 0", Due.text(x, "due 2", 0), 0);
        due("DAY 6999", Due.text(x, "due 3", 6999), 1);
        due("at once", x.rules(2, 0, 0, 0), 2);
        for (int i = 0; i < 116; i++) x.run(60);
        x.run(38);
        due("on DAY 6998", x.rules(2, 0, 0, 0), 2);
        x.run(1);
        due("on DAY 6999", x.rules(2, 0, 0, 0), 3);
        x = new TokenValley();
        x.run(9);
        Due.text(x, "due 4", 3);
        due("a DAY that went by is as good", x.why(2), 0);
    }

    private static void tape() {
        Due.says(29, "THE TAPE (96 bytes at most;");
        TokenValley x = new TokenValley();
        for (int i = 1; i <= 8; i++) due("12 more", x.feed(i, i, i), 12 * i);
        due("108", x.feed(1, 1, 1), FULL);
        for (int n = 95; n >= 85; n--) {
            due("keeps", x.trim(n), n);
            due("12 more than " + n, x.feed(1, 1, 1), FULL);
            due("nothing came", x.count(10), n);
        }
        due("keeps 84", x.trim(84), 84);
        due("12 more than 84", x.feed(1, 1, 1), 96);
        Due.says(29, "Twelve bytes come to THE TAPE, the highest of each number first: how many it has");
        x = new TokenValley();
        x.feed(0x61637420, 0x6d2d702d, 0x74202020);
        due("'act m-p-t   '", x.text(0), 0);
        due("m - p - t", x.rules(6, 100, 20, 3), 77);
        x.feed(0x6475657f, 0, 0);
        due("a byte 127", x.text(0), -103);
        x.feed(0x647565ff, -1, -1);
        due("a byte 255", x.text(0), -103);
        Due.says(30, "THE TAPE keeps its first n bytes: n. BAD (n above how many it has, too)");
        due("0 of none", x.trim(0), 0);
        due("1 of none", x.trim(1), BAD);
        x.feed(0x64756520, 0x39203920, 0x20202020);
        due("13 of 12", x.trim(13), BAD);
        due("-1", x.trim(-1), BAD);
        due("least", x.trim(Integer.MIN_VALUE), BAD);
        due("most", x.trim(Integer.MAX_VALUE), BAD);
        due("12 of 12", x.trim(12), 12);
        due("5 of 12", x.trim(5), 5);
        due("6 of 5", x.trim(6), BAD);
        due("its first ones", x.text(0), 1);
        due("due 9", x.rules(2, 0, 0, 0), 9);
    }

    private static void usedUp() {
        Due.says(31, "an act that reads it uses it up, whatever it answers");
        TokenValley x = new TokenValley();
        Due.tape(x, "due 5");
        due("a number", x.text(0), 0);
        due("no bytes", x.count(10), 0);
        due("nothing is left of it", x.text(0), -100);
        Due.tape(x, "due 5+");
        due("a FAULT", x.text(0), -106);
        due("no bytes", x.count(10), 0);
        Due.tape(x, "due 5");
        due("BAD", x.text(-1), BAD);
        due("no bytes", x.count(10), 0);
        for (int i = 1; i < 12; i++) Due.text(x, "due 5", 0);
        Due.tape(x, "due 5");
        due("FULL", x.text(0), FULL);
        due("no bytes", x.count(10), 0);
        Due.tape(x, "due 5");
        x.of(0, 0);
        x.why(2);
        x.rules(2, 1, 1, 1);
        x.run(1);
        due("other acts do not read it", x.count(10), 5);
        x = new TokenValley();
        String[] faults = {"due ww", "due 1 1", "due 12345", "due 1w", "due", "due !", "due (((1", "wag", "due w w"};
        for (int i = 0; i < faults.length; i++) {
            due("a FAULT", Due.text(x, faults[i], 0) <= -100 ? 1 : 0, 1);
            due("leaves nothing to the next one", Due.text(x, "due w+1", 0), i);
        }
    }

    private static void keys() {
        Due.says(32, "KEY: wage | stop | due | coin | fine | keep | act");
        TokenValley x = new TokenValley();
        for (int key = 0; key < 7; key++) {
            due(KEYS[key], Due.text(x, KEYS[key] + " 1", 0), key);
            due("its number", x.of(key, 0), key);
            fault(KEYS[key].substring(1) + " 1", 0);
            fault(KEYS[key].substring(0, KEYS[key].length() - 1) + " 1", 0);
            fault(KEYS[key] + "s 1", 0);
            fault(KEYS[key].toUpperCase() + " 1", 0);
            fault(KEYS[key] + " " + KEYS[key], KEYS[key].length() + 1);
            fault(" " + KEYS[key], KEYS[key].length() + 1);
        }
        fault("1", 0);
        fault("+", 0);
        fault("(due 1)", 0);
        fault("", 0);
    }

    private static void loosestFirst() {
        Due.says(34, "E, the loosest first");
        // each sign against each one that is bound more tightly, on both sides
        due("1|1&0", value("1|1&0", 0, 0, 0), 1);
        due("0&1|1", value("0&1|1", 0, 0, 0), 1);
        due("2&1=1", value("2&1=1", 0, 0, 0), 1);
        due("1=1&0", value("1=1&0", 0, 0, 0), 0);
        due("3=1+2", value("3=1+2", 0, 0, 0), 1);
        due("1+2=3", value("1+2=3", 0, 0, 0), 1);
        due("1<0+2", value("1<0+2", 0, 0, 0), 1);
        due("5>2-9", value("5>2-9", 0, 0, 0), 1);
        due("1+2*3", value("1+2*3", 0, 0, 0), 7);
        due("2*3+1", value("2*3+1", 0, 0, 0), 7);
        due("9-8/2", value("9-8/2", 0, 0, 0), 5);
        due("!1*5", value("!1*5", 0, 0, 0), 0);
        due("!0*5", value("!0*5", 0, 0, 0), 5);
        due("!0+5", value("!0+5", 0, 0, 0), 6);
        due("!0=0", value("!0=0", 0, 0, 0), 0);
        due("!0&0", value("!0&0", 0, 0, 0), 0);
        due("!1|1", value("!1|1", 0, 0, 0), 1);
        due("!(1|1)", value("!(1|1)", 0, 0, 0), 0);
        due("(1|1)&0", value("(1|1)&0", 0, 0, 0), 0);
        due("2*(3+1)", value("2*(3+1)", 0, 0, 0), 8);
    }

    private static void manyAndOne() {
        Due.says(31, "OR: AND { | AND }; AND: TEST { & TEST }; TEST: SUM [ (< | = | >) SUM ]; SUM: TERM { (+ | -) TERM }; TERM: PART { (* | /) PART }");
        for (char sign : "|&+-*/".toCharArray()) good("due 1" + times(sign + "1", 40));
        for (char first : "<=>".toCharArray()) {
            good("due 1" + first + "1");
            for (char second : "<=>".toCharArray()) {
                fault("due 1" + first + "1" + second + "1", 7);
                fault("due 1" + first + "1+1*2" + second + "1", 11);
                good("due 1" + first + "1&1" + second + "1");
                good("due 1" + first + "1|1" + second + "1");
                good("due 1" + first + "(1" + second + "1)");
                good("due (1" + first + "1)" + second + "1");
                fault("due (1" + first + "1" + second + "1)", 8);
                fault("due (1=1)" + first + "1" + second + "1", 11);
            }
        }
        due("9-3-2 from the left", value("9-3-2", 0, 0, 0), 4);
        due("9-3+2", value("9-3+2", 0, 0, 0), 8);
        due("40/4/2", value("40/4/2", 0, 0, 0), 5);
        due("40/4*2", value("40/4*2", 0, 0, 0), 20);
        due("7/2*2", value("7/2*2", 0, 0, 0), 6);
    }

    private static void numbers() {
        Due.says(31, "NUMBER (1 to 4 digits)");
        due("0", value("0", 0, 0, 0), 0);
        due("9999", value("9999", 0, 0, 0), 9999);
        due("0000", value("0000", 0, 0, 0), 0);
        due("0123", value("0123", 0, 0, 0), 123);
        Due.says(31, "a NUMBER of more than 4 digits");
        fault("act 10000", 4);
        fault("act 00000", 4);
        fault("act 1+00000", 6);
        fault("act (123456789)", 5);
        fault("act 1" + times("0", 91), 4);
        due("none came of them", value("1000*10", 0, 0, 0), 10000);
        Due.says(32, "how many NUMBERS and NAMES it has");
        TokenValley x = new TokenValley();
        Due.text(x, "act 5", 0);
        Due.text(x, "act !(m+12*m)-!!t|1234", 0);
        due("one", x.of(0, 2), 1);
        due("five", x.of(1, 2), 5);
        Due.text(x, "due " + times("1+", 45) + "1 ", 0);
        due("as many as a TAPE holds", x.of(2, 2), 46);
    }

    private static void names() {
        Due.says(31, "NAMES, each one letter: of wage t a weight, s SKILL; of stop e EARNED; of due w the WEEK; of coin l LEFT, w the WEEK;"
            + " of fine a AMOUNT, b SORT; of keep b BOUGHT, d what is OWED; of act m, p, t (6)");
        for (int key = 0; key < 7; key++) {
            for (char name = 'a'; name <= 'z'; name++) {
                String text = KEYS[key] + " " + name;
                if (NAMES[key].indexOf(name) >= 0) good(text);
                else fault(text, KEYS[key].length() + 1);
            }
            for (char name : NAMES[key].toCharArray()) {
                fault(KEYS[key] + " " + name + name, KEYS[key].length() + 1);
                fault(KEYS[key] + " " + Character.toUpperCase(name), KEYS[key].length() + 1);
            }
        }
        Due.says(34, "for two or three told numbers in the order in which its NAMES stand above (others do not matter)");
        for (int key = 0; key < 7; key++) {
            TokenValley x = new TokenValley();
            // those of wage, stop, due, coin are held: small numbers show each
            String e = "";
            for (int i = 0; i < NAMES[key].length(); i++) e += (i == 0 ? "" : "+") + NAMES[key].charAt(i) + "*" + (i == 0 ? 1 : i == 1 ? 3 : 9);
            Due.text(x, KEYS[key] + " " + e, 0);
            int want = new int[] {2 + 3, 2, 2, 2 + 3, 2 + 3, 2 + 3, 2 + 3 + 18}[key];
            due(KEYS[key], x.rules(key, 2, 1, 2), want);
        }
    }

    private static void words() {
        Due.says(31, "A word is a row of letters a .. z, or of digits, as long as it goes");
        fault("due ww", 4);
        fault("due www+1", 4);
        fault("duew", 0);
        fault("wagestop 1", 0);
        fault("due w2", 5);
        fault("due 2w", 5);
        fault("due 12w", 6);
        fault("due (w)2", 7);
        fault("due (w)w", 7);
        good("due (w)+2");
        fault("keep bd", 5);
        fault("act mpt", 4);
        due("12 is one word", value("12", 0, 0, 0), 12);
        fault("act 1 2", 6);
    }

    /** Every byte but letters, digits and blanks: at the beginning, where a PART is due, and behind one. */
    private static void signs() {
        Due.says(31, "any other byte is a sign by itself");
        for (int b = 0; b < 256; b++) {
            char c = (char) b;
            if (c >= 'a' && c <= 'z' || c >= '0' && c <= '9' || c == ' ') continue;
            fault(c + "due 1", 0);
            if (c == '(' || c == '!') fault("due" + c, 4);
            else fault("due" + c, 3);
            if (c == '(' || c == '!') fault("due " + c, 5);
            else fault("due " + c + "1", 4);
            if ("|&<=>+-*/".indexOf(c) >= 0) fault("due 1" + c, 6);
            else fault("due 1" + c, 5);
            if ("|&<=>+-*/".indexOf(c) >= 0) good("due 1" + c + "1");
            else fault("due 1" + c + "1", 5);
        }
        fault("due 1<=2", 6);
        fault("due 1>=2", 6);
        fault("due 1&&2", 6);
        fault("due 1||2", 6);
        fault("due 1!=2", 5);
        fault("due -1", 4);
        fault("due +1", 4);
    }

    private static void blanks() {
        Due.says(31, "Between words and signs, and at the ends, there may be blanks (byte 32)");
        good(" due 1");
        good("due 1 ");
        good("due  1");
        good("   due   (   1   +   !   w   )   ");
        good(times(" ", 91) + "due 1");
        good("due" + times(" ", 92) + "1");
        good("due 1" + times(" ", 91));
        fault(times(" ", 96), 96);
        fault(" ", 1);
        fault("du e 1", 0);
        fault("due 1 1", 6);
        fault("due 1\t", 5);
        fault("\tdue 1", 0);
        fault("due\n1", 3);
        fault("due 1" + (char) 160, 5);
        fault("due 1" + (char) 0, 5);
    }

    private static void needsBlank() {
        Due.says(31, "a word right behind another one needs one");
        fault("due1", 3);
        fault("due1234", 3);
        fault("due12345", 3);
        fault("act1+1", 3);
        good("due 1");
        good("due(1)");
        good("due!1");
        fault("due w1", 5);
        fault("due 1w", 5);
        good("due w+1");
        fault("due 1 w", 6);
        fault("due (1)w", 7);
    }

    private static void tooSoon() {
        Due.says(31, "the end (the place behind the last byte), if it comes too soon");
        fault("", 0);
        fault("due", 3);
        fault("due ", 4);
        fault("due  ", 5);
        fault("due !", 5);
        fault("due (", 5);
        fault("due (1", 6);
        fault("due ((1)", 8);
        fault("due ((1) ", 9);
        for (char sign : "|&<=>+-*/".toCharArray()) {
            fault("due 1" + sign, 6);
            fault("due 1" + sign + "  ", 8);
            fault("due (1" + sign, 7);
        }
        fault(times(" ", 90) + "due 1+", 96);
        fault("due 1" + times("+1", 45) + "+", 96);
        Due.says(31, "the first byte of the first word or sign with which no TEXT goes on");
        fault("due 1))+", 5);
        fault("due zz zz", 4);
        fault("due 1 & & (", 8);
        fault("due ()", 5);
        fault("due (1)(", 7);
        fault("due 1(1)", 5);
        fault("due )", 4);
    }

    private static void ninthParenthesis() {
        Due.says(31, "the ninth ( that would be open within others (the outermost counted)");
        for (int many = 1; many <= 8; many++) {
            good("due " + times("(", many) + "1" + times(")", many));
            fault("due " + times("(", many) + "1" + times(")", many - 1), 4 + 2 * many);
            fault("due " + times("(", many) + "1" + times(")", many + 1), 4 + 2 * many + 1);
        }
        for (int many = 9; many <= 20; many++) fault("due " + times("(", many) + "1" + times(")", many), 12);
        fault("due " + times("(", 9), 12);
        fault("due " + times("(", 8), 12);
        fault("due " + times("( ", 9) + "1", 20);
        good("due " + times("(", 8) + "1" + times(")", 8) + "+" + times("(", 8) + "1" + times(")", 8));
        good("due ((((((((1)+(1)+(1)))))))+(1))");
        fault("due ((((((((1+((1)", 14);
        good("due " + times("(1)+", 20) + "(1)");
    }

    private static void ninthNot() {
        Due.says(31, "the ninth ! likewise (open till its PART ends)");
        for (int many = 1; many <= 8; many++) good("due " + times("!", many) + "1");
        for (int many = 9; many <= 20; many++) fault("due " + times("!", many) + "1", 12);
        fault("due " + times("!", 8), 12);
        fault("due " + times("!", 9), 12);
        fault("due " + times("! ", 9) + "1", 20);
        good("due !!!!!!!!1+!!!!!!!!w");
        good("due !!!!!!!!(1)+!!!!!!!!(w)");
        good("due !!!!!!!(1+!1+!1)");
        fault("due !!!!!!!(1+!!1)", 15);
        fault("due !!!!!!!!(1+!1)", 15);
        good("due !!!!!!!!(1)+!1");
        good("due (!!!!!!!!1)+!1");
        good("due !(!(!(!(!(!(!(!1)))))))");
        fault("due !(!(!(!(!(!(!(!!1)))))))", 19);
        good("due !!!!!!!(!1)*!1");
    }

    private static void eachByItself() {
        Due.says(31, "each by itself");
        good("due !!!!!!!!((((((((1))))))))");
        good("due ((((((((!!!!!!!!1))))))))");
        good("due !(!(!(!(!(!(!(!(1))))))))");
        fault("due !(!(!(!(!(!(!(!(!1))))))))", 20);
        fault("due !(!(!(!(!(!(!(!((1)))))))))", 20);
        fault("due ((((((((!!!!!!!!!1))))))))", 20);
        fault("due !!!!!!!!(((((((((1)))))))))", 20);
        due("eight of each", value("!(!(!(!(!(!(!(!(m))))))))", 7, 0, 0), 1);
        due("eight of each", value("!(!(!(!(!(!(!(!(m))))))))", 0, 0, 0), 0);
    }

    private static void wraps() {
        int most = Integer.MAX_VALUE, least = Integer.MIN_VALUE;
        Due.says(34, "Ints wrap; / is 0 by 0");
        due("most + 1", value("m+1", most, 0, 0), least);
        due("least - 1", value("m-1", least, 0, 0), most);
        due("0 - least", value("0-m", least, 0, 0), least);
        due("most * 2", value("m*2", most, 0, 0), -2);
        due("least * least", value("m*m", least, 0, 0), 0);
        due("9999 * 9999 * 9999", value("9999*9999*9999", 0, 0, 0), (int) 999700029999L);
        due("least / -1", value("m/(0-1)", least, 0, 0), least);
        due("1 / 0", value("1/0", 0, 0, 0), 0);
        due("0 / 0", value("0/0", 0, 0, 0), 0);
        due("least / 0", value("m/p", least, 0, 0), 0);
        due("5 + 1 / 0", value("5+1/0", 0, 0, 0), 5);
        due("1 / 0 / 0", value("1/0/0", 0, 0, 0), 0);
        due("1 / (1 - 1)", value("1/(m-m)", 9, 0, 0), 0);
        Due.says(34, "/ cuts towards 0");
        due("7 / 2", value("m/p", 7, 2, 0), 3);
        due("-7 / 2", value("m/p", -7, 2, 0), -3);
        due("7 / -2", value("m/p", 7, -2, 0), -3);
        due("-7 / -2", value("m/p", -7, -2, 0), 3);
        due("1 / 2", value("m/p", 1, 2, 0), 0);
        due("-1 / 2", value("m/p", -1, 2, 0), 0);
    }

    private static void truth() {
        Due.says(34, "tests, & | ! give 1 or 0 (what is not 0 is true; both sides are worked out)");
        int[] some = {Integer.MIN_VALUE, -5, -1, 0, 1, 2, Integer.MAX_VALUE};
        String[] signs = {"m<p", "m=p", "m>p", "m&p", "m|p"};
        for (String e : signs) {
            TokenValley x = new TokenValley();
            Due.text(x, "act " + e, 0);
            for (int m : some) {
                for (int p : some) {
                    boolean is = e.equals("m<p") ? m < p : e.equals("m=p") ? m == p : e.equals("m>p") ? m > p
                        : e.equals("m&p") ? m != 0 && p != 0 : m != 0 || p != 0;
                    due(e + " of " + m + ", " + p, x.rules(6, m, p, 0), is ? 1 : 0);
                }
            }
        }
        for (int m : some) {
            due("!" + m, value("!m", m, 0, 0), m == 0 ? 1 : 0);
            due("!!" + m, value("!!m", m, 0, 0), m == 0 ? 0 : 1);
        }
        due("0 & 1 / 0", value("0&1/0", 0, 0, 0), 0);
        due("1 | 1 / 0", value("1|1/0", 0, 0, 0), 1);
    }

    private static void counts() {
        Due.says(33, "Of a KEY that TEXT counts on a DAY which is in force, with the latest DAY, of several the greatest number");
        TokenValley x = new TokenValley();
        for (int key = 0; key < 7; key++) due("none at first", x.why(key), NONE);
        int[] days = {2, 1, 2, 0, 1, 2, 3};
        for (int i = 0; i < days.length; i++) Due.text(x, "fine " + i, days[i]);
        int[] want = {3, 4, 5, 6, 6};
        for (int day = 0; day < want.length; day++) {
            due("on DAY " + day, x.why(4), want[day]);
            due("what it gives", x.rules(4, 9, 9, 9), want[day]);
            x.run(1);
        }
        for (int key = 0; key < 7; key++) if (key != 4) due("another KEY", x.why(key), NONE);
        Due.text(x, "fine 77", 2);
        due("a new one of an earlier DAY", x.why(4), 6);
        Due.text(x, "fine 78", 3);
        due("a new one of the same DAY", x.why(4), 8);
        Due.text(x, "keep 9", 5);
        due("of another KEY", x.why(5), 9);
        due("not of this one", x.why(4), 8);
    }

    private static void without() {
        Due.says(34, "without a TEXT: of wage t, of stop 9999, of due 1, of coin 100, of fine 1, of keep 1, of act 0");
        TokenValley x = new TokenValley();
        int[] want = {7, 9999, 1, 100, 1, 1, 0};
        for (int key = 0; key < 7; key++) due(KEYS[key], x.rules(key, 7, 8, 9), want[key]);
        for (int key = 0; key < 7; key++) Due.text(x, KEYS[key] + " 50", 1);
        for (int key = 0; key < 7; key++) due("none in force: " + KEYS[key], x.rules(key, 7, 8, 9), want[key]);
        x.run(1);
        for (int key = 0; key < 7; key++) due("in force: " + KEYS[key], x.rules(key, 7, 8, 9), 50);
        due("KEY -1", x.rules(-1, 0, 0, 0), BAD);
        due("KEY 7", x.rules(7, 0, 0, 0), BAD);
        due("KEY -1", x.why(-1), BAD);
        due("KEY 7", x.why(7), BAD);
    }

    private static void held() {
        Due.says(34, "It is held: of wage 0 .. 9999, of stop 0 .. 9999, of due 1 .. 99, of coin 0 .. 100");
        int[] low = {0, 0, 1, 0}, high = {9999, 9999, 99, 100};
        for (int key = 0; key < 7; key++) {
            TokenValley x = new TokenValley();
            Due.text(x, KEYS[key] + " " + NAMES[key].charAt(0), 0);
            int[] some = {Integer.MIN_VALUE, -1, 0, 1, 2, 98, 99, 100, 101, 9998, 9999, 10000, Integer.MAX_VALUE};
            for (int v : some) {
                int want = key > 3 ? v : v < low[key] ? low[key] : v > high[key] ? high[key] : v;
                due(KEYS[key] + " of " + v, x.rules(key, v, 0, 0), want);
            }
        }
        TokenValley x = new TokenValley();
        due("wage without a TEXT, above", x.rules(0, 10000, 0, 0), 9999);
        due("wage without a TEXT, below", x.rules(0, -1, 0, 0), 0);
    }
}
