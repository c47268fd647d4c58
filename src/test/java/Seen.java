/** All that can be looked at of an object, as one text. */
final class Seen {
    private Seen() {
    }

    /** What an image keeps. */
    static String kept(TokenValley x) {
        StringBuilder s = new StringBuilder();
        for (int what = 0; what <= 14; what++) if (what != 9 && what != 10) s.append(x.count(what)).append(' ');
        for (int pit = 0; pit < 8; pit++) for (int what = 0; what <= 5; what++) s.append(x.dug(pit, what)).append(' ');
        for (int shop = 0; shop < 6; shop++) for (int what = 0; what <= 3; what++) s.append(x.sells(shop, what)).append(' ');
        for (int man = 0; man < x.count(1); man++) {
            for (int what = 0; what <= 13; what++) s.append(x.is(man, what)).append(' ');
            for (int what = 0; what <= 8; what++) s.append(x.worth(man, what)).append(' ');
            for (int k = 0; k < 12; k++) s.append(x.known(man, k / 2, k % 2)).append(' ');
            s.append(x.wrong(man)).append(' ');
        }
        for (int due = 0; due < x.count(3); due++) for (int what = 0; what <= 7; what++) s.append(x.told(due, what)).append(' ');
        for (int text = 0; text < 12; text++) for (int what = 0; what <= 2; what++) s.append(x.of(text, what)).append(' ');
        for (int key = 0; key < 7; key++) s.append(x.why(key)).append(' ').append(x.rules(key, 40, 3, 1)).append(' ');
        for (int i = 0; i <= x.round(); i++) s.append(x.way(i)).append(' ');
        for (int n = 1; n <= 7; n++) s.append(x.seen(n)).append(' ').append(x.at(n, n - 1)).append(' ');
        for (int pits = 0; pits < 256; pits += 37) s.append(x.last(pits, 0)).append(' ').append(x.last(pits, 1)).append(' ');
        return s.append(x.least()).append(' ').append(x.plan(50, 5, 200)).toString();
    }

    /** What is kept, and BOOKS, how many numbers wait, and how many bytes are on the tape. */
    static String all(TokenValley x) {
        StringBuilder s = new StringBuilder(kept(x)).append(' ').append(x.count(9)).append(' ').append(x.count(10));
        for (int pit = 0; pit < 8; pit++) for (int week = 0; week <= 30; week++) s.append(' ').append(x.read(pit, week));
        return s.toString();
    }
}
