/** A valley paid in tokens; what each call must do is told in the document, promise by promise. */
public final class TokenValley {
    public static final int BAD = -1000000001, NO = -1000000002, FULL = -1000000003, SPENT = -1000000004, NONE = -1000000005, NOTHING = -1000000011, KIND = -1000000012, INDEX = -1000000013, SIZE = -1000000014;
    public static final int BLANK = -32768;

    private static final int LAST_DAY = 6999;
    private static final int MOST_DAYS = 60;
    private static final int MOST_DAYS_TOLD = 28;
    private static final int MOST_WAITING = 60;
    private static final int MOST_PENCE = 99999;
    private static final int MOST_AMOUNT = 999;
    private static final int MOST_FUND = 9999;
    private static final int MOST_INCOME = 99;
    private static final int ALL_TRIES = 20000;

    private final Valley now;
    private final Valley image;
    private final Valley trial;
    private final Reader reader;
    private final Books books;
    private final int[] waiting;
    private final int[] rows;
    private int waits;
    private boolean kept;

    public TokenValley() {
        now = new Valley();
        image = new Valley();
        trial = new Valley();
        reader = new Reader();
        books = new Books();
        waiting = new int[MOST_WAITING];
        rows = new int[MOST_WAITING];
        waits = 0;
        kept = false;
    }

    private static boolean within(int v, int low, int high) {
        return v >= low && v <= high;
    }

    // ---- the valley

    public int pit(int pit, int what, int v) {
        if (!within(pit, 0, Pits.MOST - 1) || !within(what, 0, 1)) return BAD;
        if (!within(v, 1, what == 0 ? Pits.MOST_WEIGHT : Pits.MOST_SCALE)) return BAD;
        return exchanged(now.pits.row(what), pit, v);
    }

    public int dug(int pit, int what) {
        if (!within(pit, 0, Pits.MOST - 1)) return BAD;
        return what == 5 ? now.men.inPit(pit) : looked(now.pits.row(what), pit);
    }

    public int shop(int sort, int price, int stock, int road) {
        if (!within(sort, Shops.COMPANY, Shops.TOWN) || !within(price, 1, Shops.MOST_PRICE)) return BAD;
        if (!within(stock, 0, Shops.MOST_STOCK)) return BAD;
        if (!within(road, 0, sort == Shops.COMPANY ? 0 : Shops.MOST_ROAD)) return BAD;
        return now.shops.added(sort, price, stock, road);
    }

    public int shelf(int shop, int what, int v) {
        if (!now.shops.has(shop) || !within(what, 1, 2)) return BAD;
        if (what == 1 && !within(v, 1, Shops.MOST_PRICE)) return BAD;
        if (what == 2 && !within(v, 0, Shops.MOST_STOCK)) return BAD;
        return exchanged(now.shops.row(what), shop, v);
    }

    public int sells(int shop, int what) {
        return now.shops.has(shop) ? looked(now.shops.row(what), shop) : BAD;
    }

    public int man(int pit, int skill, int need) {
        if (!Men.mayBe(0, pit) || !Men.mayBe(1, skill) || !Men.mayBe(2, need)) return BAD;
        if (now.men.count >= Men.MOST || now.dues.count > Dues.MOST - 2) return FULL;
        return now.newMan(pit, skill, need);
    }

    public int is(int man, int what) {
        if (!now.men.has(man)) return BAD;
        if (what == 10) return now.earned(man);
        if (what == 11) return now.owed(man);
        return looked(now.men.row(what), man);
    }

    public int be(int man, int what, int v) {
        if (!now.men.has(man) || !Men.mayBe(what, v)) return BAD;
        return exchanged(now.men.row(what), man, v);
    }

    public int known(int man, int shop, int what) {
        if (!now.men.has(man) || !now.shops.has(shop) || !within(what, 0, 1)) return BAD;
        if (!now.men.knows(man, shop)) return NONE;
        return what == 0 ? now.men.priceKnown(man, shop) : now.men.dayKnown(man, shop);
    }

    public int hear(int man, int shop) {
        if (!now.men.has(man) || !now.shops.has(shop)) return BAD;
        now.men.learn(man, shop, now.shops.price[shop], now.day);
        return 1;
    }

    public int rule(int what, int v) {
        if (!within(what, 0, 2) || !within(v, 0, what == 1 ? Valley.MOST_STORE : Valley.MOST_RULED)) return BAD;
        return exchanged(now.ruled, what, v);
    }

    public int run(int n) {
        if (!within(n, 1, MOST_DAYS)) return BAD;
        if (now.day + n > LAST_DAY) return FULL;
        now.goBy(n, false);
        return now.day;
    }

    /** A row's number at a place; BAD without such a row. */
    private static int looked(int[] row, int place) {
        return row == null || !within(place, 0, row.length - 1) ? BAD : row[place];
    }

    private static int exchanged(int[] row, int place, int v) {
        int was = looked(row, place);
        if (row != null && within(place, 0, row.length - 1)) row[place] = v;
        return was;
    }

    // ---- dues

    public int draw(int man, int amount, int sort) {
        if (!within(sort, 0, 1)) return BAD;
        int due = newDue(Dues.DRAW, man, amount, sort);
        if (due < 0) return due;
        if (sort == 0) now.men.getChecks(man, amount);
        else now.men.getCoin(man, amount);
        return due;
    }

    public int strike(int man, int amount) {
        int due = newDue(Dues.CHECK, man, amount, 0);
        if (due >= 0) now.dues.holder[due] = man;
        return due;
    }

    public int fine(int man, int amount, int sort) {
        return newDue(Dues.FINE, man, amount, sort);
    }

    public int stop(int man, int amount, int sort) {
        return newDue(Dues.STOP, man, amount, sort);
    }

    private int newDue(int kind, int man, int amount, int sort) {
        if (!now.men.has(man) || !within(amount, 1, MOST_AMOUNT) || !within(sort, 0, Dues.MOST_SORT)) return BAD;
        if (now.men.isGone(man)) return NO;
        return now.dues.added(kind, man, amount, sort, now.day);
    }

    public int let(int due) {
        if (!now.dues.has(due)) return BAD;
        int kind = now.dues.kind[due];
        if (kind != Dues.STOP && kind != Dues.FINE) return KIND;
        if (now.dues.state[due] != Dues.OPEN) return NO;
        now.dues.state[due] = kind == Dues.STOP ? Dues.DONE : Dues.BACK;
        return 1;
    }

    public int sell(int due, int man, int discount) {
        if (!now.dues.has(due) || !now.men.has(man) || !within(discount, 0, 99)) return BAD;
        if (now.dues.kind[due] != Dues.CHECK) return KIND;
        int holder = now.dues.holder[due];
        int amount = now.dues.amount[due];
        int price = amount - amount * discount / 100;
        if (!now.men.has(holder) || holder == man || now.men.coin[man] < price) return NO;
        now.men.coin[man] -= price;
        now.men.getCoin(holder, price);
        now.dues.holder[due] = man;
        return price;
    }

    public int melt(int due) {
        if (!now.dues.has(due)) return BAD;
        if (now.dues.kind[due] != Dues.CHECK) return KIND;
        int holder = now.dues.holder[due];
        if (!now.men.has(holder)) return NO;
        now.men.getChecks(holder, now.dues.amount[due]);
        now.dues.holder[due] = NONE;
        return now.men.checks[holder];
    }

    public int told(int due, int what) {
        return now.dues.has(due) ? looked(now.dues.row(what), due) : BAD;
    }

    public int as(int due, int kind) {
        if (!now.dues.has(due) || !within(kind, Dues.DUE, Dues.DEBT)) return BAD;
        return Dues.isUnder(now.dues.kind[due], kind) ? now.dues.amount[due] : KIND;
    }

    public int wrong(int man) {
        return now.men.has(man) ? now.wrongFines(man, false) : BAD;
    }

    public int give(int man) {
        if (!now.men.has(man)) return BAD;
        int sum = now.wrongFines(man, true);
        if (sum == 0) return NO;
        now.men.getCoin(man, sum);
        return sum;
    }

    public int worth(int man, int what) {
        if (!now.men.has(man) || !within(what, 0, 8)) return BAD;
        now.reckon(man, false, false);
        int left = now.pay[Valley.LEFT];
        if (what == 7) return now.shops.loavesOfCompany(left);
        if (what == 8) return now.shops.loavesOfTown(left);
        return looked(now.pay, what);
    }

    public int prove(int pit, int low, int high, int what) {
        if (!within(pit, 0, Pits.MOST - 1) || !within(what, 0, 1)) return BAD;
        if (!within(low, 1, Pits.MOST_WEIGHT) || !within(high, low, Pits.MOST_WEIGHT)) return BAD;
        long weight = (long) now.pits.tubs[pit] * (what == 0 ? high : low);
        return weight <= 0 ? NONE : (int) (now.pits.told[pit] * 100L / weight);
    }

    public int bound(int man, int pence, int weeks) {
        if (!now.men.has(man) || !within(pence, 0, 9999) || !within(weeks, 1, 99)) return BAD;
        return now.weeksBound(man, pence, weeks);
    }

    public int beside(int n, int what) {
        if (!within(n, 1, MOST_DAYS) || !within(what, 0, 2)) return BAD;
        if (now.day + n > LAST_DAY) return FULL;
        return standing(n, what, true) - standing(n, what, false);
    }

    private int standing(int days, int what, boolean inCoin) {
        trial.become(now);
        trial.goBy(days, inCoin);
        if (what == 0) return trial.allOwed();
        return what == 1 ? trial.men.sum(trial.men.bread) : trial.men.sum(trial.men.gone);
    }

    // ---- rules

    public int feed(int a, int b, int c) {
        if (reader.length > Reader.MOST_BYTES - 12) return FULL;
        reader.put(a);
        reader.put(b);
        reader.put(c);
        return reader.length;
    }

    public int trim(int n) {
        if (!within(n, 0, reader.length)) return BAD;
        reader.length = n;
        return n;
    }

    public int text(int day) {
        int fault = reader.firstFault();
        reader.length = 0;
        if (!within(day, 0, LAST_DAY)) return BAD;
        if (fault >= 0) return -100 - fault;
        return now.rules.added(reader.key, day, reader.operands, reader.codeRow());
    }

    public int of(int text, int what) {
        return now.rules.has(text) ? looked(now.rules.row(what), text) : BAD;
    }

    public int why(int key) {
        if (!within(key, 0, Rules.ACT)) return BAD;
        int text = now.rules.counting(key, now.day);
        return text < 0 ? NONE : text;
    }

    public int rules(int key, int a, int b, int c) {
        return within(key, 0, Rules.ACT) ? now.rules.given(key, now.day, a, b, c) : BAD;
    }

    // ---- books

    public int book(int pit, int sort, int n) {
        if (!within(pit, 0, Pits.MOST - 1) || !within(sort, Books.MISSING, Books.SHORTS)) return BAD;
        if (sort != Books.MISSING && n > Books.MOST_WEEKS) return BAD;
        if (sort != Books.MISSING && n < 0) return SIZE;
        books.open(pit, sort, sort == Books.MISSING ? 0 : n);
        return books.weeks[pit];
    }

    public int note(int pit, int week, int v) {
        int finding = bookFinding(pit, week);
        if (finding != 0) return finding;
        books.set(pit, week, v);
        return 1;
    }

    public int read(int pit, int week) {
        int finding = bookFinding(pit, week);
        if (finding != 0) return finding;
        int place = books.placeOf(pit, week);
        return place < 0 ? KIND : books.number[place];
    }

    private int bookFinding(int pit, int week) {
        if (!within(pit, 0, Pits.MOST - 1)) return BAD;
        if (books.isMissing(pit)) return NOTHING;
        return books.hasWeek(pit, week) ? 0 : INDEX;
    }

    public int copy(int from, int week, int to, int at, int many) {
        if (!within(from, 0, Pits.MOST - 1) || !within(to, 0, Pits.MOST - 1)) return BAD;
        if (books.isMissing(from) || books.isMissing(to)) return NOTHING;
        if (books.sort[from] != books.sort[to]) return KIND;
        if (!books.hasRange(from, week, many) || !books.hasRange(to, at, many)) return INDEX;
        System.arraycopy(books.number, Books.start(from) + week, books.number, Books.start(to) + at, many);
        return many;
    }

    public int all(int week, int what) {
        if (week < 0 || !within(what, 0, 1)) return BAD;
        int sum = 0;
        int missing = 0;
        for (int pit = 0; pit < Pits.MOST; pit++) {
            int place = books.placeOf(pit, week);
            if (place < 0) missing++;
            else sum += books.number[place];
        }
        return what == 0 ? sum : missing;
    }

    // ---- ways, inspectors, strikes, choices

    public int end(int m, int p, int t, int is) {
        if (!within(m, 0, Ways.MOST_M) || !within(p, 0, Ways.MOST_P) || !within(t, 0, Ways.MOST_T)) return BAD;
        if (!within(is, 0, 1)) return BAD;
        return exchanged(now.ways.ends, Ways.number(m, p, t), is);
    }

    public int round() {
        return now.ways.open(now.rules, now.day);
    }

    public int way(int i) {
        if (i < 0) return BAD;
        int found = now.ways.openWay(now.rules, now.day, i);
        return found < 0 ? NONE : found;
    }

    public int would(int text, int what) {
        if (!now.rules.has(text) || !within(what, 0, 1)) return BAD;
        if (now.rules.key[text] != Rules.ACT) return KIND;
        return what == 0 ? now.ways.openBarred(now.rules, now.day, text) : now.ways.othersBarred(now.rules, text);
    }

    public int breach(int place, int from, int to) {
        if (!within(place, 0, Rounds.PLACES - 1) || !within(from, 0, 6) || !within(to, from, 6)) return BAD;
        return now.rounds.added(place, from, to);
    }

    public int seen(int n) {
        return within(n, 1, 7) ? now.rounds.bestOf(n) : BAD;
    }

    public int at(int n, int day) {
        if (!within(n, 1, 7) || !within(day, 0, n - 1)) return BAD;
        now.rounds.bestOf(n);
        return looked(now.rounds.best, day);
    }

    public int last(int pits, int what) {
        if (!within(pits, 0, 255) || !within(what, 0, 1)) return BAD;
        now.weighStrikes();
        return what == 0 ? now.menLast(pits) : now.companyLasts(pits);
    }

    public int least() {
        now.weighStrikes();
        int found = now.leastStrike();
        return found == 0 ? NONE : found;
    }

    public int choice(int cost, int gain, int ahead) {
        if (!within(cost, 0, 999) || !within(gain, 0, 99) || !within(ahead, 0, 255)) return BAD;
        return now.plans.added(cost, gain, ahead);
    }

    public int plan(int fund, int income, int tries) {
        if (!isFunded(fund, income) || !within(tries, 1, ALL_TRIES)) return BAD;
        return now.plans.found(fund, income, tries);
    }

    public int planned(int fund, int income, int i) {
        if (!isFunded(fund, income) || i < 0) return BAD;
        int week = now.plans.found(fund, income, ALL_TRIES);
        if (week < 0) return week;
        return i < now.plans.count ? looked(now.plans.bestOrder, i) : NONE;
    }

    private static boolean isFunded(int fund, int income) {
        return within(fund, 0, MOST_FUND) && within(income, 0, MOST_INCOME);
    }

    // ---- rows, images

    public int tell(int v) {
        if (waits >= MOST_WAITING) return FULL;
        waiting[waits] = v;
        waits++;
        return waits;
    }

    public int check(int what, int fund, int income) {
        int many = waits;
        waits = 0;
        if (what == 0) return orderChecked(many, fund, income);
        return what == 1 ? daysChecked(many, fund) : BAD;
    }

    private int orderChecked(int many, int fund, int income) {
        if (!isFunded(fund, income)) return BAD;
        int week = now.plans.found(fund, income, ALL_TRIES);
        if (week < 0) return week;
        for (int i = 0; i < now.plans.count; i++) {
            rows[2 * i] = now.plans.bestOrder[i];
            rows[2 * i + 1] = now.plans.bestWeeks[i];
        }
        return firstWrong(many, 2 * now.plans.count);
    }

    private int daysChecked(int many, int days) {
        if (!within(days, 1, MOST_DAYS_TOLD)) return BAD;
        if (!kept) return NO;
        trial.become(image);
        for (int i = 0; i < days; i++) {
            trial.goBy(1, false);
            rows[2 * i] = trial.allEarned();
            rows[2 * i + 1] = trial.allOwed();
        }
        return firstWrong(many, 2 * days);
    }

    /** 0 if the numbers that waited are the first of the rows; else 1 and how many were right. */
    private int firstWrong(int many, int due) {
        for (int i = 0; i < due; i++) {
            if (i >= many || waiting[i] != rows[i]) return 1 + i;
        }
        return many > due ? 1 + due : 0;
    }

    public int keep() {
        image.become(now);
        kept = true;
        return now.day;
    }

    public int back() {
        if (!kept) return NO;
        now.become(image);
        return now.day;
    }

    public int count(int what) {
        switch (what) {
            case 0: return now.shops.count;
            case 1: return now.men.count;
            case 2: return now.men.sum(now.men.gone);
            case 3: return now.dues.count;
            case 4: return now.dues.open();
            case 5: return now.dues.out();
            case 6: return now.rules.count;
            case 7: return now.rounds.count;
            case 8: return now.plans.count;
            case 9: return waits;
            case 10: return reader.length;
            case 11: return now.day;
            case 12: return now.day / 7;
            case 13: return now.men.sum(now.men.coin);
            case 14: return now.men.sum(now.men.checks);
            default: return BAD;
        }
    }

    /** All that an image keeps, and how its days go by. */
    private static final class Valley {
        static final int MOST_STORE = 99999;
        static final int MOST_RULED = 9999;
        static final int LIMIT = 0, STORE = 1, ORDERS = 2;
        static final int LEFT = 0, COIN = 1, CHECKS = 2, DRAWS = 3, FINES = 4, STOPS = 5, DEBT = 6;
        static final int NEVER = 999;
        static final int MOST_WEEKS_BOUND = 1000;

        final Pits pits;
        final Shops shops;
        final Men men;
        final Dues dues;
        final Rules rules;
        final Ways ways;
        final Rounds rounds;
        final Plans plans;
        final int[] ruled;
        final int[] pay;
        final int[] teller;
        final int[] pitLasts;
        final int[] pitDigs;
        int day;

        Valley() {
            pits = new Pits();
            shops = new Shops();
            men = new Men();
            dues = new Dues();
            rules = new Rules();
            ways = new Ways();
            rounds = new Rounds();
            plans = new Plans();
            ruled = new int[] {100, 0, 0};
            pay = new int[7];
            teller = new int[Pits.MOST];
            pitLasts = new int[Pits.MOST];
            pitDigs = new int[Pits.MOST];
            day = 0;
        }

        void become(Valley other) {
            pits.become(other.pits);
            shops.become(other.shops);
            men.become(other.men);
            dues.become(other.dues);
            rules.become(other.rules);
            ways.become(other.ways);
            rounds.become(other.rounds);
            plans.become(other.plans);
            System.arraycopy(other.ruled, 0, ruled, 0, ruled.length);
            day = other.day;
        }

        int newMan(int pit, int skill, int need) {
            int man = men.added(pit, skill, need);
            men.wage[man] = dues.added(Dues.WAGE, man, 0, 0, day);
            men.debt[man] = dues.added(Dues.DEBT, man, 0, 0, day);
            return man;
        }

        int earned(int man) {
            return dues.amount[men.wage[man]];
        }

        int owed(int man) {
            return dues.amount[men.debt[man]];
        }

        int allEarned() {
            int sum = 0;
            for (int man = 0; man < men.count; man++) sum += earned(man);
            return sum;
        }

        int allOwed() {
            int sum = 0;
            for (int man = 0; man < men.count; man++) sum += owed(man);
            return sum;
        }

        void goBy(int days, boolean inCoin) {
            for (int i = 0; i < days; i++) {
                for (int man = 0; man < men.count; man++) if (!men.isGone(man)) dig(man);
                for (int man = 0; man < men.count; man++) if (!men.isGone(man)) eat(man);
                for (int shop = 0; shop < shops.count; shop++) spreadNews(shop);
                if (day % 7 == 6) endWeek(inCoin);
                day++;
            }
        }

        private void dig(int man) {
            int pit = men.pit[man];
            int skill = men.skill[man];
            int weight = skill * pits.weight[pit];
            int toldWeight = weight * pits.scale[pit] / 100;
            int wage = rules.given(Rules.WAGE, day, toldWeight, skill, 0);
            dues.amount[men.wage[man]] += wage;
            men.shortBy[man] += rules.given(Rules.WAGE, day, weight, skill, 0) - wage;
            pits.dug[pit] += weight;
            pits.told[pit] += toldWeight;
            pits.tubs[pit] += skill;
        }

        private void eat(int man) {
            int need = men.need[man];
            if (men.lacks(man) > 0) buy(man);
            boolean hungry = men.bread[man] < need;
            men.bread[man] = hungry ? 0 : men.bread[man] - need;
            men.hunger[man] = hungry ? men.hunger[man] + 1 : Math.max(0, men.hunger[man] - 1);
            if (men.hunger[man] >= Men.MOST_HUNGER) men.gone[man] = 1;
        }

        private void buy(int man) {
            for (int shop = 0; shop < shops.count; shop++) {
                if (shops.sort[shop] == Shops.COMPANY) buyByChecks(man, shop);
            }
            buyInTown(man);
            for (int shop = 0; shop < shops.count; shop++) {
                if (shops.sort[shop] == Shops.COMPANY) buyOnDebt(man, shop);
            }
        }

        private void buyByChecks(int man, int shop) {
            int loaves = Math.min(men.lacks(man), shops.loavesFor(shop, men.checks[man]));
            if (loaves <= 0) return;
            men.checks[man] -= loaves * shops.price[shop];
            takeLoaves(man, shop, loaves);
        }

        private void buyInTown(int man) {
            int lacks = men.lacks(man);
            int shop = lacks > 0 ? townKnownCheapest(man, lacks) : -1;
            if (shop < 0) return;
            int loaves = Math.min(lacks, shops.loavesFor(shop, men.coin[man] - shops.road[shop]));
            if (loaves <= 0) return;
            men.coin[man] -= loaves * shops.price[shop] + shops.road[shop];
            takeLoaves(man, shop, loaves);
        }

        private int townKnownCheapest(int man, int lacks) {
            int found = -1;
            int least = 0;
            for (int shop = 0; shop < shops.count; shop++) {
                if (shops.sort[shop] != Shops.TOWN || !men.knows(man, shop)) continue;
                int cost = men.priceKnown(man, shop) * lacks + shops.road[shop];
                if (found < 0 || cost < least) {
                    found = shop;
                    least = cost;
                }
            }
            return found;
        }

        private void buyOnDebt(int man, int shop) {
            int loaves = Math.min(men.lacks(man), shops.loavesFor(shop, ruled[LIMIT] - owed(man)));
            if (loaves <= 0) return;
            dues.amount[men.debt[man]] += loaves * shops.price[shop];
            takeLoaves(man, shop, loaves);
        }

        private void takeLoaves(int man, int shop, int loaves) {
            men.bread[man] += loaves;
            shops.stock[shop] -= loaves;
            if (shops.sort[shop] == Shops.COMPANY) men.bought[man] += loaves;
            men.learn(man, shop, shops.price[shop], day);
        }

        /** Who tells of a shop is sought for all pits first, so that news goes all at once. */
        private void spreadNews(int shop) {
            for (int pit = 0; pit < Pits.MOST; pit++) teller[pit] = -1;
            for (int man = 0; man < men.count; man++) {
                if (men.isGone(man) || !men.knows(man, shop)) continue;
                int other = teller[men.pit[man]];
                if (other < 0 || men.dayKnown(man, shop) > men.dayKnown(other, shop)) teller[men.pit[man]] = man;
            }
            for (int man = 0; man < men.count; man++) {
                int other = teller[men.pit[man]];
                if (men.isGone(man) || other < 0) continue;
                men.learn(man, shop, men.priceKnown(other, shop), men.dayKnown(other, shop));
            }
        }

        private void endWeek(boolean inCoin) {
            int week = day / 7;
            int due = rules.given(Rules.DUE, day, week, 0, 0);
            if (due > 0 && (week + 1) % due == 0) {
                for (int man = 0; man < men.count; man++) if (!men.isGone(man)) reckon(man, true, inCoin);
            }
            for (int man = 0; man < men.count; man++) {
                if (!men.isGone(man) && !isKept(man)) men.gone[man] = 1;
                men.bought[man] = 0;
            }
        }

        private boolean isKept(int man) {
            return rules.given(Rules.KEEP, day, men.bought[man], owed(man), 0) != 0;
        }

        /** What PAY gives and takes comes to the row pay; it is done only if it is real. */
        void reckon(int man, boolean real, boolean inCoin) {
            int earned = earned(man);
            int left = earned;
            pay[DRAWS] = dues.taken(man, Dues.DRAW, left, real);
            left -= pay[DRAWS];
            pay[FINES] = dues.taken(man, Dues.FINE, left, real);
            left -= pay[FINES];
            int most = Math.min(left, rules.given(Rules.STOP, day, earned, 0, 0));
            pay[STOPS] = dues.taken(man, Dues.STOP, most, real);
            left -= pay[STOPS];
            pay[DEBT] = Math.min(left, owed(man));
            left -= pay[DEBT];
            int hundredths = inCoin ? 100 : rules.given(Rules.COIN, day, left, day / 7, 0);
            pay[LEFT] = left;
            pay[COIN] = (int) ((long) left * hundredths / 100);
            pay[CHECKS] = left - pay[COIN];
            if (real) payOut(man);
        }

        private void payOut(int man) {
            dues.amount[men.debt[man]] -= pay[DEBT];
            dues.amount[men.wage[man]] = 0;
            men.getCoin(man, pay[COIN]);
            men.getChecks(man, pay[CHECKS]);
        }

        int wrongFines(int man, boolean giveBack) {
            int sum = 0;
            for (int due = 0; due < dues.count; due++) {
                if (dues.man[due] != man || !isWrongFine(due)) continue;
                sum += dues.amount[due];
                if (giveBack) dues.state[due] = Dues.BACK;
            }
            return sum;
        }

        private boolean isWrongFine(int due) {
            if (dues.kind[due] != Dues.FINE || dues.state[due] != Dues.DONE || dues.amount[due] <= 0) return false;
            return rules.given(Rules.FINE, day, dues.amount[due], dues.sort[due], 0) == 0;
        }

        int weeksBound(int man, int pence, int weeks) {
            int shop = shops.firstCompany();
            if (shop < 0 || weeks <= 0) return NONE;
            int grows = shops.price[shop] * men.need[man] * 7;
            int owes = owed(man);
            for (int week = 1; week <= MOST_WEEKS_BOUND; week++) {
                owes += grows;
                if (week % weeks == 0) owes = Math.max(0, owes - pence);
                if (owes == 0) return week;
            }
            return NONE;
        }

        /** Each pit's own part of a strike, so that a set of pits need not look at the men again. */
        void weighStrikes() {
            int price = shops.leastPrice(Shops.TOWN);
            for (int pit = 0; pit < Pits.MOST; pit++) {
                pitLasts[pit] = -1;
                pitDigs[pit] = 0;
            }
            for (int man = 0; man < men.count; man++) {
                int need = men.need[man];
                if (men.isGone(man) || need <= 0) continue;
                int pit = men.pit[man];
                int days = (men.bread[man] + (price > 0 ? men.coin[man] / price : 0)) / need;
                pitLasts[pit] = pitLasts[pit] < 0 ? days : Math.min(pitLasts[pit], days);
                pitDigs[pit] += men.skill[man] * pits.weight[pit];
            }
        }

        int menLast(int set) {
            int least = -1;
            for (int pit = 0; pit < Pits.MOST; pit++) {
                if ((set >> pit & 1) == 0 || pitLasts[pit] < 0) continue;
                least = least < 0 ? pitLasts[pit] : Math.min(least, pitLasts[pit]);
            }
            return least < 0 ? NEVER : least;
        }

        int companyLasts(int set) {
            int lacks = ruled[ORDERS];
            for (int pit = 0; pit < Pits.MOST; pit++) {
                if ((set >> pit & 1) == 0) lacks -= pitDigs[pit];
            }
            return lacks <= 0 ? NEVER : Math.min(NEVER, ruled[STORE] / lacks);
        }

        /** The set as bits; 0 if there is none. */
        int leastStrike() {
            int found = 0;
            for (int set = 1; set < 1 << Pits.MOST; set++) {
                if (found != 0 && Integer.bitCount(set) >= Integer.bitCount(found)) continue;
                if (companyLasts(set) < menLast(set)) found = set;
            }
            return found;
        }
    }

    private static final class Pits {
        static final int MOST = 8;
        static final int MOST_WEIGHT = 99;
        static final int MOST_SCALE = 150;

        final int[] weight = new int[MOST];
        final int[] scale = new int[MOST];
        final int[] dug = new int[MOST];
        final int[] told = new int[MOST];
        final int[] tubs = new int[MOST];

        Pits() {
            for (int pit = 0; pit < MOST; pit++) {
                weight[pit] = 20;
                scale[pit] = 100;
            }
        }

        void become(Pits other) {
            System.arraycopy(other.weight, 0, weight, 0, MOST);
            System.arraycopy(other.scale, 0, scale, 0, MOST);
            System.arraycopy(other.dug, 0, dug, 0, MOST);
            System.arraycopy(other.told, 0, told, 0, MOST);
            System.arraycopy(other.tubs, 0, tubs, 0, MOST);
        }

        int[] row(int what) {
            switch (what) {
                case 0: return weight;
                case 1: return scale;
                case 2: return dug;
                case 3: return told;
                case 4: return tubs;
                default: return null;
            }
        }
    }

    private static final class Shops {
        static final int MOST = 6;
        static final int COMPANY = 0, TOWN = 1;
        static final int MOST_PRICE = 99;
        static final int MOST_STOCK = 99999;
        static final int MOST_ROAD = 99;

        final int[] sort = new int[MOST];
        final int[] price = new int[MOST];
        final int[] stock = new int[MOST];
        final int[] road = new int[MOST];
        int count;

        boolean has(int shop) {
            return shop >= 0 && shop < count;
        }

        int added(int newSort, int newPrice, int newStock, int newRoad) {
            if (count >= MOST) return FULL;
            sort[count] = newSort;
            price[count] = newPrice;
            stock[count] = newStock;
            road[count] = newRoad;
            count++;
            return count - 1;
        }

        void become(Shops other) {
            System.arraycopy(other.sort, 0, sort, 0, MOST);
            System.arraycopy(other.price, 0, price, 0, MOST);
            System.arraycopy(other.stock, 0, stock, 0, MOST);
            System.arraycopy(other.road, 0, road, 0, MOST);
            count = other.count;
        }

        int[] row(int what) {
            switch (what) {
                case 0: return sort;
                case 1: return price;
                case 2: return stock;
                case 3: return road;
                default: return null;
            }
        }

        /** How many loaves pence and STOCK let. */
        int loavesFor(int shop, int pence) {
            if (pence <= 0 || price[shop] <= 0) return 0;
            return Math.min(stock[shop], pence / price[shop]);
        }

        int firstCompany() {
            for (int shop = 0; shop < count; shop++) if (sort[shop] == COMPANY) return shop;
            return -1;
        }

        /** 0 without a shop of that sort. */
        int leastPrice(int ofSort) {
            int least = 0;
            for (int shop = 0; shop < count; shop++) {
                if (sort[shop] == ofSort && (least == 0 || price[shop] < least)) least = price[shop];
            }
            return least;
        }

        int loavesOfCompany(int pence) {
            int least = leastPrice(COMPANY);
            return least <= 0 ? 0 : pence / least;
        }

        int loavesOfTown(int pence) {
            int most = 0;
            for (int shop = 0; shop < count; shop++) {
                if (sort[shop] == TOWN && price[shop] > 0) most = Math.max(most, (pence - road[shop]) / price[shop]);
            }
            return most;
        }
    }

    private static final class Men {
        static final int MOST = 12;
        static final int MOST_HUNGER = 9;
        private static final int UNKNOWN = -1;
        private static final int[] LEAST_V = {0, 0, 1, 0, 0, 0};
        private static final int[] MOST_V = {7, 9, 9, 99999, 99999, 99999};

        final int[] pit = new int[MOST];
        final int[] skill = new int[MOST];
        final int[] need = new int[MOST];
        final int[] bread = new int[MOST];
        final int[] coin = new int[MOST];
        final int[] checks = new int[MOST];
        final int[] hunger = new int[MOST];
        final int[] bought = new int[MOST];
        final int[] shortBy = new int[MOST];
        final int[] gone = new int[MOST];
        final int[] wage = new int[MOST];
        final int[] debt = new int[MOST];
        private final int[] knownPrice = new int[MOST * Shops.MOST];
        private final int[] knownDay = new int[MOST * Shops.MOST];
        int count;

        Men() {
            for (int i = 0; i < knownDay.length; i++) knownDay[i] = UNKNOWN;
        }

        boolean has(int man) {
            return man >= 0 && man < count;
        }

        boolean isGone(int man) {
            return gone[man] != 0;
        }

        /** Whether v may be told of a man; what: 0 PIT to 5 CHECKS. */
        static boolean mayBe(int what, int v) {
            if (what < 0 || what >= LEAST_V.length || what >= MOST_V.length) return false;
            return v >= LEAST_V[what] && v <= MOST_V[what];
        }

        /** A place behind the last man is as new always: an image that comes back brings its own places, too. */
        int added(int newPit, int newSkill, int newNeed) {
            if (count >= MOST) return FULL;
            pit[count] = newPit;
            skill[count] = newSkill;
            need[count] = newNeed;
            count++;
            return count - 1;
        }

        void become(Men other) {
            for (int what = 0; what <= 13; what++) {
                int[] row = row(what);
                int[] from = other.row(what);
                if (row != null && from != null) System.arraycopy(from, 0, row, 0, MOST);
            }
            System.arraycopy(other.knownPrice, 0, knownPrice, 0, knownPrice.length);
            System.arraycopy(other.knownDay, 0, knownDay, 0, knownDay.length);
            count = other.count;
        }

        int[] row(int what) {
            switch (what) {
                case 0: return pit;
                case 1: return skill;
                case 2: return need;
                case 3: return bread;
                case 4: return coin;
                case 5: return checks;
                case 6: return hunger;
                case 7: return bought;
                case 8: return shortBy;
                case 9: return gone;
                case 12: return wage;
                case 13: return debt;
                default: return null;
            }
        }

        int sum(int[] row) {
            int sum = 0;
            for (int man = 0; man < count && man < row.length; man++) sum += row[man];
            return sum;
        }

        int inPit(int ofPit) {
            int many = 0;
            for (int man = 0; man < count; man++) if (pit[man] == ofPit && !isGone(man)) many++;
            return many;
        }

        int lacks(int man) {
            return need[man] - bread[man];
        }

        void getCoin(int man, int pence) {
            coin[man] = Math.min(MOST_PENCE, coin[man] + pence);
        }

        void getChecks(int man, int pence) {
            checks[man] = Math.min(MOST_PENCE, checks[man] + pence);
        }

        void learn(int man, int shop, int price, int day) {
            knownPrice[man * Shops.MOST + shop] = price;
            knownDay[man * Shops.MOST + shop] = day;
        }

        boolean knows(int man, int shop) {
            return knownDay[man * Shops.MOST + shop] != UNKNOWN;
        }

        int priceKnown(int man, int shop) {
            return knownPrice[man * Shops.MOST + shop];
        }

        int dayKnown(int man, int shop) {
            return knownDay[man * Shops.MOST + shop];
        }
    }

    private static final class Dues {
        static final int MOST = 60;
        static final int MOST_SORT = 9;
        static final int DUE = 0, WAGE = 1, DRAW = 2, CHECK = 3, FINE = 4, STOP = 5, DEBT = 6;
        static final int OPEN = 0, DONE = 1, BACK = 2;
        private static final int[] ABOVE = {-1, DUE, WAGE, DRAW, DUE, DUE, DUE};

        final int[] kind = new int[MOST];
        final int[] man = new int[MOST];
        final int[] amount = new int[MOST];
        final int[] sort = new int[MOST];
        final int[] day = new int[MOST];
        final int[] state = new int[MOST];
        final int[] holder = new int[MOST];
        final int[] stopped = new int[MOST];
        int count;

        boolean has(int due) {
            return due >= 0 && due < count;
        }

        static boolean isUnder(int kind, int above) {
            int k = kind;
            for (int i = 0; i < ABOVE.length && k >= 0 && k < ABOVE.length; i++) {
                if (k == above) return true;
                k = ABOVE[k];
            }
            return false;
        }

        int added(int newKind, int ofMan, int newAmount, int newSort, int onDay) {
            if (count >= MOST) return FULL;
            kind[count] = newKind;
            man[count] = ofMan;
            amount[count] = newAmount;
            sort[count] = newSort;
            day[count] = onDay;
            state[count] = OPEN;
            holder[count] = NONE;
            stopped[count] = 0;
            count++;
            return count - 1;
        }

        void become(Dues other) {
            for (int what = 0; what <= 7; what++) {
                int[] row = row(what);
                int[] from = other.row(what);
                if (row != null && from != null) System.arraycopy(from, 0, row, 0, MOST);
            }
            count = other.count;
        }

        int[] row(int what) {
            switch (what) {
                case 0: return kind;
                case 1: return man;
                case 2: return amount;
                case 3: return sort;
                case 4: return day;
                case 5: return state;
                case 6: return holder;
                case 7: return stopped;
                default: return null;
            }
        }

        int open() {
            int many = 0;
            for (int due = 0; due < count; due++) if (state[due] == OPEN) many++;
            return many;
        }

        int out() {
            int many = 0;
            for (int due = 0; due < count; due++) if (holder[due] != NONE) many++;
            return many;
        }

        /** What open dues of a man, of a kind or under it, take from pence at PAY. */
        int taken(int ofMan, int ofKind, int pence, boolean real) {
            int sum = 0;
            for (int due = 0; due < count; due++) {
                if (man[due] != ofMan || state[due] != OPEN || !isUnder(kind[due], ofKind)) continue;
                int part = Math.min(amount[due], pence - sum);
                sum += part;
                if (real) settle(due, part);
            }
            return sum;
        }

        private void settle(int due, int part) {
            if (kind[due] == STOP) {
                stopped[due] += part;
                return;
            }
            if (kind[due] == FINE) amount[due] = part;
            state[due] = DONE;
        }
    }

    /** The texts on the wall, as rows of numbers, names and signs; each sign stands behind what it joins. */
    private static final class Rules {
        static final int MOST = 12;
        static final int WAGE = 0, STOP = 1, DUE = 2, COIN = 3, FINE = 4, KEEP = 5, ACT = 6;
        static final int FIRST_NAME = 10000;

        final int[] key = new int[MOST];
        final int[] day = new int[MOST];
        final int[] operands = new int[MOST];
        private final int[][] code = new int[MOST][];
        private final int[] stack = new int[Reader.MOST_BYTES];
        int count;

        boolean has(int text) {
            return text >= 0 && text < count;
        }

        int added(int newKey, int fromDay, int newOperands, int[] newCode) {
            if (count >= MOST) return FULL;
            key[count] = newKey;
            day[count] = fromDay;
            operands[count] = newOperands;
            code[count] = newCode;
            count++;
            return count - 1;
        }

        /** A text's code never changes, so that valleys may share it. */
        void become(Rules other) {
            System.arraycopy(other.key, 0, key, 0, MOST);
            System.arraycopy(other.day, 0, day, 0, MOST);
            System.arraycopy(other.operands, 0, operands, 0, MOST);
            for (int text = 0; text < MOST; text++) code[text] = other.code[text];
            count = other.count;
        }

        int[] row(int what) {
            switch (what) {
                case 0: return key;
                case 1: return day;
                case 2: return operands;
                default: return null;
            }
        }

        /** The text that counts for a key on a day; -1 without. */
        int counting(int ofKey, int onDay) {
            int found = -1;
            for (int text = 0; text < count; text++) {
                if (key[text] != ofKey || day[text] > onDay) continue;
                if (found < 0 || day[text] >= day[found]) found = text;
            }
            return found;
        }

        /** What THE RULE of a key gives, held. */
        int given(int ofKey, int onDay, int a, int b, int c) {
            int text = counting(ofKey, onDay);
            return held(ofKey, text < 0 ? unwritten(ofKey, a) : value(text, a, b, c));
        }

        private static int unwritten(int ofKey, int a) {
            switch (ofKey) {
                case WAGE: return a;
                case STOP: return 9999;
                case COIN: return 100;
                case ACT: return 0;
                default: return 1;
            }
        }

        private static int held(int ofKey, int v) {
            switch (ofKey) {
                case WAGE:
                case STOP: return Math.max(0, Math.min(9999, v));
                case DUE: return Math.max(1, Math.min(99, v));
                case COIN: return Math.max(0, Math.min(100, v));
                default: return v;
            }
        }

        int value(int text, int a, int b, int c) {
            int[] row = code[text];
            if (row == null) return 0;
            int top = 0;
            for (int i = 0; i < row.length; i++) {
                int op = row[i];
                if (op >= 0 && top < stack.length) {
                    stack[top] = op < FIRST_NAME ? op : named(op - FIRST_NAME, a, b, c);
                    top++;
                } else if (op == -'!' && top > 0) {
                    stack[top - 1] = stack[top - 1] == 0 ? 1 : 0;
                } else if (op < 0 && top > 1) {
                    top--;
                    stack[top - 1] = joined(-op, stack[top - 1], stack[top]);
                }
            }
            return top > 0 ? stack[top - 1] : 0;
        }

        private static int named(int name, int a, int b, int c) {
            if (name == 0) return a;
            return name == 1 ? b : c;
        }

        private static int joined(int sign, int x, int y) {
            switch (sign) {
                case '|': return x != 0 || y != 0 ? 1 : 0;
                case '&': return x != 0 && y != 0 ? 1 : 0;
                case '<': return x < y ? 1 : 0;
                case '=': return x == y ? 1 : 0;
                case '>': return x > y ? 1 : 0;
                case '+': return x + y;
                case '-': return x - y;
                case '*': return x * y;
                default: return y == 0 ? 0 : x / y;
            }
        }
    }

    /** The tape, and how a text is read from it. */
    private static final class Reader {
        static final int MOST_BYTES = 96;
        private static final int MOST_OPEN = 8;
        private static final int MOST_DIGITS = 4;
        private static final int END = 0, WORD = 1, NUMBER = 2, SIGN = 3, BROKEN = 4;
        private static final int JOINING = 5, TESTS = 2;

        private final int[] tape = new int[MOST_BYTES];
        private final int[] code = new int[MOST_BYTES];
        private int codeLength;
        private int kind;
        private int from;
        private int to;
        int length;
        int key;
        int operands;

        void put(int number) {
            for (int shift = 24; shift >= 0; shift -= 8) {
                if (length >= MOST_BYTES) return;
                tape[length] = number >> shift & 255;
                length++;
            }
        }

        int[] codeRow() {
            int[] row = new int[codeLength];
            System.arraycopy(code, 0, row, 0, codeLength);
            return row;
        }

        /** Reads the tape; the place of its fault, or -1. */
        int firstFault() {
            codeLength = 0;
            operands = 0;
            kind = END;
            to = 0;
            goOn();
            key = keyHere();
            if (key < 0) return from;
            goOn();
            if (!expression(0, 0, 0)) return from;
            return kind == END ? -1 : from;
        }

        private static boolean isLetter(int b) {
            return b >= 'a' && b <= 'z';
        }

        private static boolean isDigit(int b) {
            return b >= '0' && b <= '9';
        }

        /** Goes on to the next word, sign, or the end. */
        private void goOn() {
            int behind = kind == WORD || kind == NUMBER ? to : -1;
            from = to;
            while (from < length && tape[from] == ' ') from++;
            to = from;
            if (from >= length) {
                kind = END;
            } else if (isLetter(tape[from])) {
                while (to < length && isLetter(tape[to])) to++;
                kind = WORD;
            } else if (isDigit(tape[from])) {
                while (to < length && isDigit(tape[to])) to++;
                kind = to - from > MOST_DIGITS ? BROKEN : NUMBER;
            } else {
                to = from + 1;
                kind = SIGN;
            }
            if (from == behind && (kind == WORD || kind == NUMBER)) kind = BROKEN;
        }

        private boolean isSign(int sign) {
            return kind == SIGN && tape[from] == sign;
        }

        private int keyHere() {
            if (kind != WORD) return -1;
            for (int k = 0; k <= Rules.ACT; k++) if (isWord(word(k))) return k;
            return -1;
        }

        private boolean isWord(String word) {
            if (word.length() != to - from) return false;
            for (int i = 0; i < word.length(); i++) if (tape[from + i] != word.charAt(i)) return false;
            return true;
        }

        private static String word(int ofKey) {
            switch (ofKey) {
                case Rules.WAGE: return "wage";
                case Rules.STOP: return "stop";
                case Rules.DUE: return "due";
                case Rules.COIN: return "coin";
                case Rules.FINE: return "fine";
                case Rules.KEEP: return "keep";
                default: return "act";
            }
        }

        private static String names(int ofKey) {
            switch (ofKey) {
                case Rules.WAGE: return "ts";
                case Rules.STOP: return "e";
                case Rules.DUE: return "w";
                case Rules.COIN: return "lw";
                case Rules.FINE: return "ab";
                case Rules.KEEP: return "bd";
                default: return "mpt";
            }
        }

        /** Level 0 is OR, then AND, TEST, SUM, TERM; false leaves from at the fault. */
        private boolean expression(int level, int parens, int nots) {
            if (level >= JOINING) return part(parens, nots);
            if (!expression(level + 1, parens, nots)) return false;
            int most = level == TESTS ? 1 : MOST_BYTES;
            for (int i = 0; i < most && joinsAt(level); i++) {
                int sign = tape[from];
                goOn();
                if (!expression(level + 1, parens, nots)) return false;
                emit(-sign);
            }
            return true;
        }

        private boolean joinsAt(int level) {
            switch (level) {
                case 0: return isSign('|');
                case 1: return isSign('&');
                case TESTS: return isSign('<') || isSign('=') || isSign('>');
                case 3: return isSign('+') || isSign('-');
                default: return isSign('*') || isSign('/');
            }
        }

        private boolean part(int parens, int nots) {
            if (kind == NUMBER) return operand(number());
            if (kind == WORD) return operand(name());
            if (isSign('!') && nots < MOST_OPEN) {
                goOn();
                if (!part(parens, nots + 1)) return false;
                emit(-'!');
                return true;
            }
            if (!isSign('(') || parens >= MOST_OPEN) return false;
            goOn();
            if (!expression(0, parens + 1, nots) || !isSign(')')) return false;
            goOn();
            return true;
        }

        private boolean operand(int op) {
            if (op < 0) return false;
            emit(op);
            operands++;
            goOn();
            return true;
        }

        private int number() {
            int v = 0;
            for (int i = from; i < to; i++) v = v * 10 + tape[i] - '0';
            return v;
        }

        /** The name's place among those of the key, as an operand; -1 if it is none. */
        private int name() {
            int place = to - from == 1 ? names(key).indexOf((char) tape[from]) : -1;
            return place < 0 ? -1 : Rules.FIRST_NAME + place;
        }

        private void emit(int op) {
            if (codeLength >= code.length) return;
            code[codeLength] = op;
            codeLength++;
        }
    }

    private static final class Books {
        static final int MOST_WEEKS = 30;
        static final int MISSING = -1, SHORTS = 1;

        final int[] sort = new int[Pits.MOST];
        final int[] weeks = new int[Pits.MOST];
        final int[] number = new int[Pits.MOST * MOST_WEEKS];

        Books() {
            for (int pit = 0; pit < Pits.MOST; pit++) sort[pit] = MISSING;
        }

        static int start(int pit) {
            return pit * MOST_WEEKS;
        }

        void open(int pit, int newSort, int many) {
            sort[pit] = newSort;
            weeks[pit] = many;
            for (int week = 0; week < MOST_WEEKS; week++) number[start(pit) + week] = 0;
        }

        boolean isMissing(int pit) {
            return sort[pit] == MISSING;
        }

        boolean hasWeek(int pit, int week) {
            return week >= 0 && week < weeks[pit];
        }

        boolean hasRange(int pit, int week, int many) {
            return week >= 0 && many >= 0 && many <= weeks[pit] - week;
        }

        void set(int pit, int week, int v) {
            number[start(pit) + week] = sort[pit] == SHORTS ? (short) v : v;
        }

        /** Where the number of a week stands, blanks passed over; -1 if it cannot be read. */
        int placeOf(int pit, int week) {
            if (isMissing(pit) || !hasWeek(pit, week)) return -1;
            int blank = sort[pit] == SHORTS ? BLANK : Integer.MIN_VALUE;
            for (int w = week; w >= 0; w--) if (number[start(pit) + w] != blank) return start(pit) + w;
            return -1;
        }
    }

    /** The ways to pay, numbered by m, then p, then t. */
    private static final class Ways {
        static final int MOST_M = 3, MOST_P = 3, MOST_T = 2;
        private static final int MOST = 48;

        final int[] ends = new int[MOST];

        void become(Ways other) {
            System.arraycopy(other.ends, 0, ends, 0, MOST);
        }

        static int number(int m, int p, int t) {
            return (m * (MOST_P + 1) + p) * (MOST_T + 1) + t;
        }

        private static int m(int number) {
            return number / ((MOST_T + 1) * (MOST_P + 1));
        }

        private static int p(int number) {
            return number / (MOST_T + 1) % (MOST_P + 1);
        }

        private static int t(int number) {
            return number % (MOST_T + 1);
        }

        private boolean isOpen(Rules rules, int day, int number) {
            return ends[number] != 0 && rules.given(Rules.ACT, day, m(number), p(number), t(number)) == 0;
        }

        private static boolean isBarred(Rules rules, int text, int number) {
            return rules.value(text, m(number), p(number), t(number)) != 0;
        }

        int open(Rules rules, int day) {
            int many = 0;
            for (int number = 0; number < MOST; number++) if (isOpen(rules, day, number)) many++;
            return many;
        }

        int openWay(Rules rules, int day, int i) {
            int many = 0;
            for (int number = 0; number < MOST; number++) {
                if (!isOpen(rules, day, number)) continue;
                if (many == i) return 100 * m(number) + 10 * p(number) + t(number);
                many++;
            }
            return -1;
        }

        int openBarred(Rules rules, int day, int text) {
            int many = 0;
            for (int number = 0; number < MOST; number++) {
                if (isOpen(rules, day, number) && isBarred(rules, text, number)) many++;
            }
            return many;
        }

        int othersBarred(Rules rules, int text) {
            int many = 0;
            for (int number = 0; number < MOST; number++) {
                if (ends[number] == 0 && isBarred(rules, text, number)) many++;
            }
            return many;
        }
    }

    /** Breaches, as bits, and the inspector's round in which most of them are seen. */
    private static final class Rounds {
        static final int MOST = 16;
        static final int PLACES = 4;
        private static final int DAYS = 7;

        private final int[] place = new int[MOST];
        private final int[] from = new int[MOST];
        private final int[] to = new int[MOST];
        private final int[] there = new int[DAYS * PLACES];
        private final int[] later = new int[DAYS + 1];
        private final int[] tried = new int[DAYS];
        final int[] best = new int[DAYS];
        private int most;
        int count;

        int added(int atPlace, int fromDay, int toDay) {
            if (count >= MOST) return FULL;
            place[count] = atPlace;
            from[count] = fromDay;
            to[count] = toDay;
            count++;
            return count - 1;
        }

        void become(Rounds other) {
            System.arraycopy(other.place, 0, place, 0, MOST);
            System.arraycopy(other.from, 0, from, 0, MOST);
            System.arraycopy(other.to, 0, to, 0, MOST);
            count = other.count;
        }

        /** How many are seen by the best round of so many days, which stands in best then. */
        int bestOf(int days) {
            for (int i = 0; i < there.length; i++) there[i] = 0;
            for (int b = 0; b < count; b++) {
                for (int day = from[b]; day <= to[b]; day++) there[day * PLACES + place[b]] |= 1 << b;
            }
            later[days] = 0;
            for (int day = days - 1; day >= 0; day--) {
                later[day] = later[day + 1];
                for (int p = 0; p < PLACES; p++) later[day] |= there[day * PLACES + p];
            }
            most = -1;
            goRound(0, days, 0);
            return most;
        }

        /** Leaves out what cannot see more than the best so far: of equal rounds the first one stays. */
        private void goRound(int day, int days, int seenBits) {
            if (Integer.bitCount(seenBits | later[day]) <= most) return;
            if (day >= days) {
                most = Integer.bitCount(seenBits);
                System.arraycopy(tried, 0, best, 0, days);
                return;
            }
            for (int p = 0; p < PLACES; p++) {
                tried[day] = p;
                goRound(day + 1, days, seenBits | there[day * PLACES + p]);
            }
        }
    }

    /** Choices, and the order in which all are had soonest. */
    private static final class Plans {
        static final int MOST = 8;
        private static final int LAST_WEEK = 999;

        private final int[] cost = new int[MOST];
        private final int[] gain = new int[MOST];
        private final int[] ahead = new int[MOST];
        private final int[] order = new int[MOST];
        private final int[] weeks = new int[MOST];
        final int[] bestOrder = new int[MOST];
        final int[] bestWeeks = new int[MOST];
        private int best;
        private int triesLeft;
        int count;

        int added(int newCost, int newGain, int newAhead) {
            if (count >= MOST) return FULL;
            cost[count] = newCost;
            gain[count] = newGain;
            ahead[count] = newAhead;
            count++;
            return count - 1;
        }

        void become(Plans other) {
            System.arraycopy(other.cost, 0, cost, 0, MOST);
            System.arraycopy(other.gain, 0, gain, 0, MOST);
            System.arraycopy(other.ahead, 0, ahead, 0, MOST);
            count = other.count;
        }

        /** The week of the best order, which stands in bestOrder and bestWeeks then; or SPENT, NO. */
        int found(int fund, int income, int tries) {
            best = -1;
            triesLeft = tries;
            if (!putNext(0, 0, 0, fund, income)) return SPENT;
            return best < 0 ? NO : best;
        }

        /** False: a try more would be done than may be. */
        private boolean putNext(int had, int many, int week, int fund, int income) {
            if (many >= count) {
                if (best < 0 || week < best) keepOrder(week);
                return true;
            }
            for (int c = 0; c < count; c++) {
                if ((had >> c & 1) != 0 || (ahead[c] & ~had) != 0) continue;
                if (triesLeft <= 0) return false;
                triesLeft--;
                int waits = weeksTill(cost[c] - fund, income);
                if (week + waits > LAST_WEEK) continue;
                order[many] = c;
                weeks[many] = week + waits;
                int rest = fund + waits * income - cost[c];
                if (!putNext(had | 1 << c, many + 1, week + waits, rest, income + gain[c])) return false;
            }
            return true;
        }

        private static int weeksTill(int lacks, int income) {
            if (lacks <= 0) return 0;
            return income <= 0 ? LAST_WEEK + 1 : (lacks + income - 1) / income;
        }

        private void keepOrder(int week) {
            best = week;
            System.arraycopy(order, 0, bestOrder, 0, count);
            System.arraycopy(weeks, 0, bestWeeks, 0, count);
        }
    }
}
