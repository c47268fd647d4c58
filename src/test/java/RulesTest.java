/** Promises 29 to 34: the tape, texts and their faults, the text that counts, what a rule gives. */
public final class RulesTest {
    private static final int BAD = Due.BAD, FULL = Due.FULL, NONE = Due.NONE;

    public static void main(String[] args) {
        tape();
        texts();
        faults();
        depths();
        longest();
        values();
        counting();
        unwritten();
        held();
        names();
        full();
        Due.end();
    }

    private static void due(String call, long got, long want) {
        Due.due(call, got, want);
    }

    private static void tape() {
        TokenValley x = new TokenValley();
        for (int i = 1; i <= 8; i++) due("29: feed", x.feed(0x20202020, 0x20202020, 0x20202020), 12 * i);
        due("29: FULL", x.feed(1, 2, 3), FULL);
        due("56: bytes", x.count(10), 96);
        due("30: above", x.trim(97), BAD);
        due("30: below", x.trim(-1), BAD);
        due("30: all", x.trim(96), 96);
        due("30: 85", x.trim(85), 85);
        due("29: 97 would be too many", x.feed(1, 2, 3), FULL);
        due("30: 84", x.trim(84), 84);
        due("29: 96", x.feed(1, 2, 3), 96);
        due("30: it does not grow", x.trim(0), 0);
        due("30: nor again", x.trim(1), BAD);
        x.feed(0x64756520, 0x392d3700, 0);
        due("30: 7", x.trim(7), 7);
        due("29: highest first", x.text(0), 0);
        due("29: due 9-7", x.rules(2, 0, 0, 0), 2);
        due("31: used up", x.count(10), 0);
        x.feed(0x64756520, 0x31323334, 0x35000000);
        x.trim(5);
        due("30: what was cut off", x.text(0), 1);
        due("30: is not read", x.rules(2, 0, 0, 0), 1);
        x.feed(0x64756520, 0x77777777, 0);
        x.trim(5);
        due("30: nor as letters", x.text(0), 2);
        x.feed(0x64756520, 0x31202020, 0x31000000);
        x.trim(8);
        due("30: nor behind blanks", x.text(0), 3);
        x.feed(0xffffffff, 0x80808080, 0);
        due("31: a byte above 127 is a sign", x.text(0), -100);
        due("31: used up by a FAULT, too", x.count(10), 0);
    }

    private static void texts() {
        TokenValley x = new TokenValley();
        due("31: day -1", Due.text(x, "due 1", -1), BAD);
        due("31: used up by BAD, too", x.count(10), 0);
        due("31: day 7000", Due.text(x, "due 1", 7000), BAD);
        due("31: BAD ahead of a FAULT", Due.text(x, "due", 7000), BAD);
        due("31: none yet", x.count(6), 0);
        String[] all = {"wage t+s*2", "stop e", "due 3", "coin l/w-l", "fine !(a|b)", "keep b&d&7", "act m=p=0"};
        int[] size = {3, 1, 1, 3, 2, 3};
        for (int key = 0; key < 6; key++) due("31: " + all[key], Due.text(x, all[key], 6999 - key), key);
        due("31: a second test", Due.text(x, all[6], 0), -107);
        due("31: act", Due.text(x, "act (m=p)=t", 0), 6);
        for (int key = 0; key < 6; key++) {
            due("32: KEY", x.of(key, 0), key);
            due("32: DAY", x.of(key, 1), 6999 - key);
            due("32: NUMBERS and NAMES", x.of(key, 2), size[key]);
        }
        due("32: KEY of act", x.of(6, 0), 6);
        due("32: what 3", x.of(0, 3), BAD);
        due("32: what -1", x.of(0, -1), BAD);
        due("32: text 7", x.of(7, 0), BAD);
        due("32: text -1", x.of(-1, 0), BAD);
    }

    private static void fault(String text, int place) {
        due("31: FAULT of '" + text + "'", Due.text(new TokenValley(), text, 0), -100 - place);
    }

    private static void good(String text) {
        due("31: '" + text + "'", Due.text(new TokenValley(), text, 0), 0);
    }

    private static void faults() {
        fault("", 0);
        fault("    ", 4);
        fault("wage", 4);
        fault("wage  ", 6);
        fault("wag t", 0);
        fault("rage t", 0);
        fault("duez 1", 0);
        fault("due zz", 4);
        fault("due 1za", 5);
        fault("  wages t", 2);
        fault("Wage t", 0);
        fault("5", 0);
        fault("(wage t)", 0);
        fault("due3", 3);
        fault("due12345", 3);
        good("due(3)");
        good("due!3");
        good("  due   3  ");
        good(" due (  ! w )");
        fault("due 00001", 4);
        good("due 0001");
        fault("due 1 2", 6);
        fault("due 1w", 5);
        fault("due w1", 5);
        fault("due ww", 4);
        fault("due w w", 6);
        fault("due e", 4);
        fault("wage e", 5);
        fault("stop t", 5);
        fault("coin b", 5);
        fault("fine d", 5);
        fault("keep a", 5);
        fault("act w", 4);
        fault("due due", 4);
        fault("due +1", 4);
        fault("due 1+", 6);
        fault("due 1+ ", 7);
        fault("due 1++1", 6);
        fault("due 1 -", 7);
        fault("due 1*/1", 6);
        fault("due ()", 5);
        fault("due (1", 6);
        fault("due (1))", 7);
        fault("due 1)", 5);
        fault("due 1(", 5);
        fault("due 1!", 5);
        fault("due !", 5);
        fault("due 1<2<3", 7);
        fault("due 1=2>3", 7);
        good("due 1=(2>3)");
        good("due 1=2&2>3|1<2");
        fault("due 1&&1", 6);
        fault("due 1||1", 6);
        fault("due 1<=2", 6);
        fault("due 1\t+2", 5);
        fault("due\t1", 3);
        fault("due 1\n", 5);
        fault("due 1%2", 5);
        fault("due 1.", 5);
        fault("due W", 4);
        fault("due " + (char) 225, 4);
        fault("due -1", 4);
    }

    private static void depths() {
        good("due ((((((((1))))))))");
        fault("due (((((((((1)))))))))", 12);
        good("due ((((((((1))))))))+((((((((1))))))))");
        fault("due ((((((((1)+(1)))))))+1", 26);
        fault("due ((((((((1+(1)))))))))", 14);
        good("due !!!!!!!!1");
        fault("due !!!!!!!!!1", 12);
        good("due !!!!!!!!1+!!!!!!!!1");
        good("due !!!!!!!((((((((!1))))))))");
        fault("due !!!!!!!!(1+!1)", 15);
        good("due !!!!!!!(1+!1)+!1");
        good("due !(!(!(!(!(!(!(!(1))))))))");
        fault("due !(!(!(!(!(!(!(!(!1))))))))", 20);
        fault("due !(!(!(!(!(!(!(!((1)))))))))", 20);
        fault("due !!!!!!!! !", 13);
    }

    private static void longest() {
        StringBuilder text = new StringBuilder("due ");
        while (text.length() < 95) text.append("1+");
        text.setLength(95);
        TokenValley x = new TokenValley();
        due("31: 95 bytes", Due.text(x, text + " ", 0), 0);
        due("32: its NUMBERS", x.of(0, 2), 46);
        due("34: its sum", x.rules(2, 0, 0, 0), 46);
        fault(text + "+", 96);
        due("31: deep", Due.text(x, "act m|p&t<m+p*(m|p&t<m+p*(m|p&t<m+p*(m|p&t<m+p*(m|p&t<m+p*(m|p&t<m+p*(m|p&t<m+p*t))))))", 0), 1);
        due("32: its NAMES", x.of(1, 2), 36);
        due("34: deep", x.rules(6, 0, 1, 1), 0);
        due("34: deep, below 0", x.rules(6, 0, 1, -1), 1);
    }

    private static int value(String e, int m, int p, int t) {
        TokenValley x = new TokenValley();
        due("31: act " + e, Due.text(x, "act " + e, 0), 0);
        return x.rules(6, m, p, t);
    }

    private static void values() {
        due("34: the loosest first", value("1|0&0", 0, 0, 0), 1);
        due("34: & under a test", value("1&0=0", 0, 0, 0), 1);
        due("34: a test of sums", value("1+1=2", 0, 0, 0), 1);
        due("34: * before +", value("2+3*4", 0, 0, 0), 14);
        due("34: from the left", value("9-3-2", 0, 0, 0), 4);
        due("34: from the left, too", value("8/4/2*3", 0, 0, 0), 3);
        due("34: parentheses", value("(2+3)*4", 0, 0, 0), 20);
        due("34: ! binds tightest", value("!0+1", 0, 0, 0), 2);
        due("34: ! of a number", value("!7", 0, 0, 0), 0);
        due("34: !! gives 1", value("!!7", 0, 0, 0), 1);
        due("34: & gives 1", value("6&9", 0, 0, 0), 1);
        due("34: | gives 1", value("0|9", 0, 0, 0), 1);
        due("34: | gives 0", value("0|0", 0, 0, 0), 0);
        due("34: <", value("m<p", 3, 4, 0), 1);
        due("34: < not", value("m<p", 4, 4, 0), 0);
        due("34: >", value("m>p", 5, 4, 0), 1);
        due("34: > not", value("m>p", 4, 4, 0), 0);
        due("34: =", value("m=p", 4, 4, 0), 1);
        due("34: = not", value("m=p", 4, 5, 0), 0);
        due("34: / cuts towards 0", value("m/p", -7, 2, 0), -3);
        due("34: by 0", value("m/p+1", 7, 0, 0), 1);
        due("34: least by -1", value("m/p", Integer.MIN_VALUE, -1, 0), Integer.MIN_VALUE);
        due("34: + wraps", value("m+p", Integer.MAX_VALUE, 1, 0), Integer.MIN_VALUE);
        due("34: - wraps", value("m-p", Integer.MIN_VALUE, 1, 0), Integer.MAX_VALUE);
        due("34: * wraps", value("m*p", 65536, 65537, 0), 65536);
        due("34: three names", value("m*100+p*10+t", 1, 2, 3), 123);
        due("34: below 0 is true", value("m&1", -5, 0, 0), 1);
        due("34: 9999", value("9999", 0, 0, 0), 9999);
        due("34: 0007", value("0007", 0, 0, 0), 7);
        due("34: blanks", value(" ( m + 1 ) * 2 ", 4, 0, 0), 10);
        due("34: tests as numbers", value("(m<5)*10+(m>2)", 3, 0, 0), 11);
    }

    private static void counting() {
        TokenValley x = new TokenValley();
        due("33: key -1", x.why(-1), BAD);
        due("33: key 7", x.why(7), BAD);
        for (int key = 0; key < 7; key++) due("33: none", x.why(key), NONE);
        Due.text(x, "stop 5", 3);
        Due.text(x, "stop 6", 1);
        Due.text(x, "stop 7", 3);
        Due.text(x, "stop 8", 2);
        Due.text(x, "coin 9", 0);
        due("33: not yet", x.why(1), NONE);
        due("34: without", x.rules(1, 0, 0, 0), 9999);
        x.run(1);
        due("33: the only one", x.why(1), 1);
        due("34: the only one", x.rules(1, 0, 0, 0), 6);
        x.run(1);
        due("33: the latest", x.why(1), 3);
        x.run(1);
        due("33: of several the greatest", x.why(1), 2);
        due("34: of several the greatest", x.rules(1, 0, 0, 0), 7);
        due("33: another key", x.why(3), 4);
        TokenValley y = new TokenValley();
        Due.text(y, "stop 5", 1);
        Due.text(y, "stop 6", 0);
        y.run(1);
        due("33: the first has the latest DAY", y.why(1), 0);
        due("34: the first has the latest DAY", y.rules(1, 0, 0, 0), 5);
        due("34: key 7", x.rules(7, 0, 0, 0), BAD);
        due("34: key -1", x.rules(-1, 0, 0, 0), BAD);
    }

    private static void unwritten() {
        TokenValley x = new TokenValley();
        int[] want = {77, 9999, 1, 100, 1, 1, 0};
        for (int key = 0; key < 7; key++) due("34: without a TEXT " + key, x.rules(key, 77, 88, 99), want[key]);
        due("34: wage is held", x.rules(0, 10000, 0, 0), 9999);
        due("34: wage is held at 0", x.rules(0, -1, 0, 0), 0);
        due("34: wage as told", x.rules(0, 9999, 0, 0), 9999);
    }

    private static void held() {
        TokenValley x = new TokenValley();
        Due.text(x, "wage t", 0);
        Due.text(x, "stop e", 0);
        Due.text(x, "due w", 0);
        Due.text(x, "coin l", 0);
        Due.text(x, "fine a", 0);
        Due.text(x, "keep b", 0);
        Due.text(x, "act m", 0);
        int[] low = {0, 0, 1, 0};
        int[] high = {9999, 9999, 99, 100};
        for (int key = 0; key < 4; key++) {
            due("34: below " + key, x.rules(key, -5, 0, 0), low[key]);
            due("34: lowest " + key, x.rules(key, low[key], 0, 0), low[key]);
            due("34: within " + key, x.rules(key, 50, 0, 0), 50);
            due("34: highest " + key, x.rules(key, high[key], 0, 0), high[key]);
            due("34: above " + key, x.rules(key, high[key] + 1, 0, 0), high[key]);
        }
        for (int key = 4; key < 7; key++) {
            due("34: not held", x.rules(key, -123456, 0, 0), -123456);
            due("34: not held above", x.rules(key, 123456, 0, 0), 123456);
        }
    }

    private static void names() {
        TokenValley x = new TokenValley();
        Due.text(x, "wage t*10+s", 0);
        Due.text(x, "coin l*10+w", 0);
        Due.text(x, "fine a*10+b", 0);
        Due.text(x, "keep b*10+d", 0);
        due("34: t, s", x.rules(0, 3, 4, 99), 34);
        due("34: l, w", x.rules(3, 3, 4, 99), 34);
        due("34: a, b", x.rules(4, 3, 4, 99), 34);
        due("34: b, d", x.rules(5, 3, 4, 99), 34);
    }

    private static void full() {
        TokenValley x = new TokenValley();
        for (int i = 0; i < 12; i++) due("31: twelve", Due.text(x, "due " + i, 0), i);
        due("31: FULL", Due.text(x, "due 1", 0), FULL);
        due("31: used up by FULL, too", x.count(10), 0);
        due("31: a FAULT ahead of FULL", Due.text(x, "due", 0), -103);
        due("31: BAD ahead of FULL", Due.text(x, "due 1", 7000), BAD);
        due("56: TEXTS", x.count(6), 12);
    }
}
