/** Promises 35 to 39: books of ints and shorts, blanks, copies, all pits together. */
public final class BooksTest {
    private static final int BAD = Due.BAD, NOTHING = Due.NOTHING, KIND = Due.KIND, INDEX = Due.INDEX, SIZE = Due.SIZE;
    private static final int BLANK = -32768, INT_BLANK = Integer.MIN_VALUE;

    public static void main(String[] args) {
        opening();
        noting();
        reading();
        copying();
        copyingOnes();
        together();
        Due.end();
    }

    private static void due(String call, long got, long want) {
        Due.due(call, got, want);
    }

    private static void opening() {
        TokenValley x = new TokenValley();
        due("35: pit -1", x.book(-1, 0, 1), BAD);
        due("35: pit 8", x.book(8, 0, 1), BAD);
        due("35: sort -2", x.book(0, -2, 1), BAD);
        due("35: sort 2", x.book(0, 2, 1), BAD);
        due("35: n 31", x.book(0, 1, 31), BAD);
        due("35: n -1", x.book(0, 1, -1), SIZE);
        due("35: least n", x.book(0, 1, INT_BLANK), SIZE);
        due("35: BAD ahead of SIZE", x.book(0, 2, -1), BAD);
        due("35: still MISSING", x.read(0, 0), NOTHING);
        due("35: thirty", x.book(0, 0, 30), 30);
        due("35: all 0", x.read(0, 29), 0);
        due("35: refused, so it stays", x.book(0, 0, -1), SIZE);
        due("35: its last WEEK", x.read(0, 29), 0);
        due("35: none", x.book(0, 1, 0), 0);
        due("35: no WEEK 0", x.read(0, 0), INDEX);
        due("35: MISSING, n any", x.book(0, -1, -77), 0);
        due("35: MISSING, n any", x.book(0, -1, 77), 0);
        due("35: MISSING", x.read(0, 0), NOTHING);
        x.book(1, 0, 3);
        x.note(1, 2, 9);
        x.note(1, 0, 9);
        due("35: again", x.book(1, 0, 5), 5);
        due("35: its first WEEK", x.read(1, 0), 0);
        due("35: all 0 again", x.read(1, 2), 0);
        due("35: MISSING with a BAD pit", x.book(8, -1, 0), BAD);
    }

    private static void noting() {
        TokenValley x = new TokenValley();
        due("36: pit", x.note(8, 0, 1), BAD);
        due("36: pit -1", x.note(-1, 0, 1), BAD);
        due("36: NOTHING", x.note(0, 0, 1), NOTHING);
        x.book(0, 0, 2);
        due("36: week 2", x.note(0, 2, 1), INDEX);
        due("36: week -1", x.note(0, -1, 1), INDEX);
        due("36: noted", x.note(0, 1, 123456789), 1);
        due("37: read", x.read(0, 1), 123456789);
        due("36: the other WEEK", x.read(0, 0), 0);
        due("36: -32768 of ints", x.note(0, 1, BLANK), 1);
        due("36: is a number", x.read(0, 1), BLANK);
        x.book(0, 1, 2);
        x.note(0, 0, 5);
        x.note(0, 1, 0x12345678);
        due("36: lowest 16 bits", x.read(0, 1), 0x5678);
        x.note(0, 1, 0xffff);
        due("36: with a sign", x.read(0, 1), -1);
        x.note(0, 1, 32768);
        due("36: 16 bits that are BLANK", x.read(0, 1), 5);
        x.note(0, 1, INT_BLANK);
        due("36: lowest 16 bits of the least int", x.read(0, 1), 0);
        x.note(0, 1, -32767);
        due("36: least number of shorts", x.read(0, 1), -32767);
    }

    private static void reading() {
        TokenValley x = new TokenValley();
        due("37: pit", x.read(8, 0), BAD);
        due("37: pit -1", x.read(-1, 0), BAD);
        for (int sort = 0; sort < 2; sort++) {
            int blank = sort == 0 ? INT_BLANK : BLANK;
            x.book(3, sort, 6);
            due("37: week 6", x.read(3, 6), INDEX);
            due("37: week -1", x.read(3, -1), INDEX);
            x.note(3, 0, blank);
            x.note(3, 1, blank);
            x.note(3, 2, 42);
            x.note(3, 3, blank);
            x.note(3, 4, blank);
            x.note(3, 5, -7);
            due("37: BLANK from the first", x.read(3, 0), KIND);
            due("37: BLANK from the first on", x.read(3, 1), KIND);
            due("37: a number", x.read(3, 2), 42);
            due("37: as ahead", x.read(3, 3), 42);
            due("37: again and again", x.read(3, 4), 42);
            due("37: another", x.read(3, 5), -7);
        }
    }

    private static void copying() {
        TokenValley x = new TokenValley();
        x.book(0, 0, 5);
        x.book(1, 0, 4);
        x.book(2, 1, 5);
        for (int i = 0; i < 5; i++) x.note(0, i, 10 + i);
        due("38: from", x.copy(8, 0, 0, 0, 1), BAD);
        due("38: to", x.copy(0, 0, -1, 0, 1), BAD);
        due("38: BAD ahead of NOTHING", x.copy(3, 0, 8, 0, 1), BAD);
        due("38: NOTHING from", x.copy(3, 0, 0, 0, 1), NOTHING);
        due("38: NOTHING to", x.copy(0, 0, 3, 0, 1), NOTHING);
        due("38: KIND", x.copy(0, 0, 2, 0, 1), KIND);
        due("38: KIND ahead of INDEX", x.copy(0, 9, 2, 0, 1), KIND);
        due("38: week -1", x.copy(0, -1, 1, 0, 1), INDEX);
        due("38: at -1", x.copy(0, 0, 1, -1, 1), INDEX);
        due("38: many -1", x.copy(0, 0, 1, 0, -1), INDEX);
        due("38: beyond from", x.copy(0, 3, 1, 0, 3), INDEX);
        due("38: beyond to", x.copy(0, 0, 1, 2, 3), INDEX);
        due("38: most", x.copy(0, 1, 1, 0, Integer.MAX_VALUE), INDEX);
        due("38: most weeks", x.copy(0, Integer.MAX_VALUE, 1, 0, 1), INDEX);
        due("38: most at", x.copy(0, 0, 1, Integer.MAX_VALUE, 1), INDEX);
        due("38: 0 behind the last", x.copy(0, 5, 1, 4, 0), 0);
        due("38: 0 beyond from", x.copy(0, 6, 1, 4, 0), INDEX);
        due("38: 0 beyond to", x.copy(0, 5, 1, 5, 0), INDEX);
        due("38: copied", x.copy(0, 2, 1, 1, 3), 3);
        int[] want = {0, 12, 13, 14};
        for (int i = 0; i < 4; i++) due("38: WEEK " + i, x.read(1, i), want[i]);
        x.book(7, 0, 2);
        due("38: to PIT 7", x.copy(0, 0, 7, 0, 2), 2);
        due("38: from PIT 7", x.copy(7, 1, 1, 0, 1), 1);
        due("38: of PIT 7", x.read(1, 0), 11);
    }

    private static void copyingOnes() {
        TokenValley x = new TokenValley();
        x.book(0, 1, 6);
        for (int i = 0; i < 6; i++) x.note(0, i, i);
        x.note(0, 2, BLANK);
        due("38: the same, up", x.copy(0, 0, 0, 2, 4), 4);
        int[] up = {0, 1, 0, 1, 1, 3};
        for (int i = 0; i < 6; i++) due("38: up, as they were " + i, x.read(0, i), up[i]);
        due("38: the same, down", x.copy(0, 3, 0, 0, 3), 3);
        int[] down = {1, 1, 3, 1, 1, 3};
        for (int i = 0; i < 6; i++) due("38: down, as they were " + i, x.read(0, i), down[i]);
        x.note(0, 0, 8);
        due("38: a BLANK came, not what it reads", x.read(0, 1), 8);
    }

    private static void together() {
        TokenValley x = new TokenValley();
        due("39: week -1", x.all(-1, 0), BAD);
        due("39: what 2", x.all(0, 2), BAD);
        due("39: what -1", x.all(0, -1), BAD);
        due("39: all are MISSING", x.all(0, 1), 8);
        due("39: together nothing", x.all(0, 0), 0);
        x.book(0, 0, 3);
        x.book(7, 1, 2);
        x.book(5, 0, 3);
        x.note(0, 1, Integer.MAX_VALUE);
        x.note(7, 1, 3);
        x.note(5, 0, INT_BLANK);
        x.note(5, 1, INT_BLANK);
        due("39: wraps", x.all(1, 0), Integer.MIN_VALUE + 2);
        due("39: not weighed", x.all(1, 1), 6);
        due("39: week 2", x.all(2, 1), 6);
        due("39: week 0", x.all(0, 1), 6);
        due("39: BLANK reads as ahead", x.note(7, 1, BLANK), 1);
        x.note(7, 0, -4);
        due("39: of both", x.all(1, 0), Integer.MAX_VALUE - 4);
        due("39: far", x.all(Integer.MAX_VALUE, 1), 8);
        x.note(0, 0, Due.KIND);
        due("39: a number like a finding is READ", x.all(0, 1), 6);
        due("39: and counts", x.all(0, 0), Due.KIND - 4);
    }
}
