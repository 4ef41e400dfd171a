import java.util.Arrays;

/** Four who ask one. What each call must do is told by the promises of DOC.md. */
public final class FourAskOne {

    public static final int NONE = -1;

    private static final int MOST_SHELVES = 8;
    private static final int MOST_ELEMENTS = 160;
    private static final int MOST_COMERS = 8;
    private static final int MOST_ASKERS = 4;
    private static final int MOST_WAYS = 8;
    private static final int MOST_TRACED = 20;

    private static final int NOBODY = 1;
    private static final int OTHER = 2;
    private static final int NOTHING = 3;
    private static final int BELOW = 4;
    private static final int BEYOND = 5;
    private static final int WRONG = 6;
    private static final int ROOM = 7;
    /** Calls whose answer may be a small number below 0 refuse with numbers far below it. */
    private static final int FAR = 1000;

    private static final int BYTES = 0;
    private static final int SHORTS = 1;
    private static final int INTS = 2;
    private static final int LONGS = 3;
    private static final int ROW_HELD = 100;

    private static final int WAY = 0;
    private static final int TALKED = 1;
    private static final int LINED = 2;
    private static final int WORKED = 3;
    private static final int LETTERED = 4;
    private static final int MARKED = 5;
    private static final int BLIND = 6;

    private static final int LINES = 3;
    private static final int LOOKS = 3;
    private static final int COMER_SCHOOL = 4;
    private static final int MARKS = 5;
    private static final int SUM = 6;
    private static final int COMER_NUMBERS = 6;

    private static final int ASKER_SCHOOL = 0;
    private static final int LIKE = 1;
    private static final int DRAWN = 2;
    private static final int PLACE = 3;
    private static final int ASKER_NUMBERS = 3;

    private static final int WAY_NUMBERS = 2;

    private static final int[] MOST_OF_COMER = {9, 9, 9, 9, 3, 9};
    private static final int[] MOST_OF_ASKER = {3, 9, 10};
    private static final int[] MOST_OF_WAY = {6, 99};

    private static final int WORD_COMER = 0;
    private static final int WORD_ASKER = 1;
    private static final int WORD_WAY = 2;
    private static final int WORD_CHIEF = 3;
    private static final int WORDS = 4;

    private final Shelf[] shelves;
    private final Trace trace;
    private final House house;
    private final House image;
    private final HouseText text;
    private final int[] refusals;
    private final int[] six;
    private boolean imaged;
    private int fault;

    public FourAskOne() {
        shelves = new Shelf[MOST_SHELVES];
        for (int s = 0; s < shelves.length; s++) {
            shelves[s] = new Shelf();
        }
        trace = new Trace();
        house = new House(trace);
        image = new House(trace);
        text = new HouseText(new House(trace));
        refusals = new int[ROOM + 1];
        six = new int[COMER_NUMBERS];
        imaged = false;
        fault = NONE;
    }

    public int row(int s, int sort, int n) {
        Shelf shelf = shelfAt(s);
        if (shelf == null) {
            return refuse(NOBODY);
        }
        if (n < 0) {
            return refuse(BELOW);
        }
        if (sort < BYTES || sort > LONGS) {
            return refuse(WRONG);
        }
        if (n > MOST_ELEMENTS) {
            return refuse(ROOM);
        }
        shelf.holdRow(sort, n);
        return 1;
    }

    public int set(int s, int i, long v) {
        Shelf shelf = shelfAt(s);
        if (shelf == null || !shelf.holdsRow()) {
            return refuse(whyNoRow(shelf));
        }
        if (!shelf.hasRun(i, 1)) {
            return refuse(BEYOND);
        }
        shelf.put(i, v);
        return 1;
    }

    public int copy(int p, int q, int i, int j, int n) {
        Shelf from = shelfAt(p);
        Shelf to = shelfAt(q);
        if (from == null || to == null) {
            return refuse(NOBODY);
        }
        if (from.holdsWay() || to.holdsWay() || from.isOfOtherSort(to)) {
            return refuse(OTHER);
        }
        if (!from.holdsRow() || !to.holdsRow()) {
            return refuse(NOTHING);
        }
        if (n < 0) {
            return refuse(BELOW);
        }
        if (!from.hasRun(i, n) || !to.hasRun(j, n)) {
            return refuse(BEYOND);
        }
        to.takeRun(from, i, j, n);
        return 1;
    }

    public long element(int s, int i) {
        Shelf shelf = shelfAt(s);
        return shelf == null ? 0 : shelf.longAt(i);
    }

    public int show(int s, int way) {
        Shelf shelf = shelfAt(s);
        if (shelf == null || (way != NONE && house.wayAt(way) == null)) {
            return refuse(NOBODY);
        }
        shelf.holdWay(way);
        return way == NONE ? 0 : 1;
    }

    public int holds(int s) {
        Shelf shelf = shelfAt(s);
        if (shelf == null) {
            return NONE;
        }
        return shelf.holdsRow() ? ROW_HELD + shelf.sortHeld() : shelf.wayHeld();
    }

    public int says(int s, int kind) {
        Shelf shelf = shelfAt(s);
        if (shelf == null || kind < WAY || kind > BLIND) {
            return refuse(NOBODY);
        }
        if (shelf.holdsRow()) {
            return refuse(OTHER);
        }
        Way way = house.wayAt(shelf.wayHeld());
        return way == null ? refuse(NOTHING) : saysAs(way, kind);
    }

    public int comer(int s, int i) {
        Shelf shelf = shelfAt(s);
        if (shelf == null || !shelf.holdsRow()) {
            return refuse(whyNoRow(shelf));
        }
        if (!shelf.hasRun(i, COMER_NUMBERS)) {
            return refuse(BEYOND);
        }
        boolean mayBe = true;
        for (int what = 0; what < COMER_NUMBERS; what++) {
            six[what] = shelf.intAt(i + what);
            mayBe = mayBe && isUpTo(six[what], MOST_OF_COMER[what]);
        }
        if (!mayBe) {
            return refuse(WRONG);
        }
        return house.hasRoomFor(WORD_COMER) ? house.addComer(six) : refuse(ROOM);
    }

    public int asker(int school, int like, int drawn) {
        if (!isUpTo(school, MOST_OF_ASKER[ASKER_SCHOOL]) || !isUpTo(like, MOST_OF_ASKER[LIKE])
                || !isUpTo(drawn, MOST_OF_ASKER[DRAWN])) {
            return refuse(WRONG);
        }
        return house.hasRoomFor(WORD_ASKER) ? house.addAsker(school, like, drawn) : refuse(ROOM);
    }

    public int way(int kind, int a) {
        if (!isUpTo(kind, MOST_OF_WAY[0])) {
            return refuse(NOBODY);
        }
        if (!isUpTo(a, MOST_OF_WAY[1])) {
            return refuse(WRONG);
        }
        return house.hasRoomFor(WORD_WAY) ? house.addWay(kind, a) : refuse(ROOM);
    }

    public int comerOf(int comer, int what) {
        if (!house.hasComer(comer) || what < 0 || what > SUM) {
            return refuse(BEYOND);
        }
        return house.comerNumber(comer, what);
    }

    public int askerOf(int asker, int what) {
        if (!house.hasAsker(asker) || what < 0 || what > PLACE) {
            return refuse(BEYOND);
        }
        return what == PLACE ? house.placeOf(asker) : house.askerNumber(asker, what);
    }

    public int wayOf(int way, int what) {
        Way asked = house.wayAt(way);
        if (asked == null || what < 0 || what >= WAY_NUMBERS) {
            return refuse(BEYOND);
        }
        return what == 0 ? asked.kind : asked.a;
    }

    public int change(int comer, int what, int v) {
        if (!house.hasComer(comer)) {
            return refuse(NOBODY);
        }
        if (what < 0 || what >= COMER_NUMBERS) {
            return refuse(BEYOND);
        }
        if (!isUpTo(v, MOST_OF_COMER[what])) {
            return refuse(WRONG);
        }
        int was = house.comerNumber(comer, what);
        house.putComerNumber(comer, what, v);
        return was;
    }

    public int drawn(int asker, int v) {
        if (!house.hasAsker(asker)) {
            return refuse(NOBODY);
        }
        if (!isUpTo(v, MOST_OF_ASKER[DRAWN])) {
            return refuse(WRONG);
        }
        int was = house.askerNumber(asker, DRAWN);
        house.putDrawn(asker, v);
        return was;
    }

    public int chief(int asker) {
        return house.hasAsker(asker) ? house.putFirst(asker) : refuse(NOBODY);
    }

    public int house(int s) {
        Shelf shelf = shelfAt(s);
        if (shelf == null || !shelf.holdsRow()) {
            return refuse(whyNoRow(shelf));
        }
        int items = text.read(shelf, house);
        fault = text.faultFound();
        if (fault != NONE) {
            return refuse(WRONG);
        }
        house.takeOver(text.draft());
        return items;
    }

    public int fault() {
        return fault;
    }

    public int shows(int way, int asker, int comer) {
        Way asked = house.wayAt(way);
        if (asked == null || !house.hasAsker(asker) || !house.hasComer(comer)) {
            return refuse(NOBODY);
        }
        return asked.shown(house, asker, comer);
    }

    public int said(int way, boolean slips, int asker, int comer) {
        Way asked = house.wayAt(way);
        if (asked == null || !house.hasAsker(asker) || !house.hasComer(comer)) {
            return refuse(NOBODY);
        }
        return house.saidBy(asked, slips, asker, comer);
    }

    public int total(int way, boolean slips, int comer) {
        Way asked = house.wayAt(way);
        if (asked == null || !house.hasComer(comer)) {
            return refuse(NOBODY);
        }
        return house.saidByFirst(house.askerCount(), asked, slips, comer);
    }

    public int taken(int way, boolean slips) {
        Way asked = house.wayAt(way);
        if (asked == null) {
            refuse(NOBODY);
            return -11;
        }
        return house.takenBy(asked, slips);
    }

    public int best() {
        return house.hasComer(0) ? house.firstGreatest(SUM) : refuse(BEYOND);
    }

    public int tells(int way, boolean slips) {
        Way asked = house.wayAt(way);
        return asked == null ? refuseFar(NOBODY) : house.tellsOf(asked, slips);
    }

    public int righted(int way, int m) {
        Way asked = house.wayAt(way);
        if (asked == null) {
            return refuseFar(NOBODY);
        }
        return m < 2 || m > MOST_COMERS ? refuseFar(WRONG) : house.rightedBy(asked, m);
    }

    public int head() {
        int head = NONE;
        int most = 0;
        for (int w = 0; w < MOST_WAYS; w++) {
            Way way = house.wayAt(w);
            if (way != null) {
                int tells = house.tellsOf(way, true);
                if (head == NONE || tells > most) {
                    head = w;
                    most = tells;
                }
            }
        }
        return head == NONE ? refuse(BEYOND) : head;
    }

    public int joined(int way, int other, int x) {
        Way one = house.wayAt(way);
        Way two = house.wayAt(other);
        if (one == null || two == null) {
            return refuseFar(NOBODY);
        }
        return isUpTo(x, 10) ? house.joinedTells(one, two, x) : refuseFar(WRONG);
    }

    public int weights(int way, int other) {
        Way one = house.wayAt(way);
        Way two = house.wayAt(other);
        if (one == null || two == null) {
            return refuse(NOBODY);
        }
        int weight = 0;
        int most = house.joinedTells(one, two, 0);
        for (int x = 1; x <= 10; x++) {
            int tells = house.joinedTells(one, two, x);
            if (tells > most) {
                weight = x;
                most = tells;
            }
        }
        return weight;
    }

    public int heads(int asker) {
        return house.hasAsker(asker) ? house.headsOf(asker) : refuse(NOBODY);
    }

    public int agree(int way) {
        Way asked = house.wayAt(way);
        if (asked == null) {
            return refuse(NOBODY);
        }
        if (!house.hasComer(0)) {
            return refuse(BEYOND);
        }
        return house.agreeing(asked, house.takenBy(asked, false));
    }

    public int wrong(int way, boolean slips) {
        Way asked = house.wayAt(way);
        if (asked == null) {
            return refuse(NOBODY);
        }
        if (!house.hasComer(0)) {
            return refuse(BEYOND);
        }
        return house.bestSum() - house.comerNumber(house.takenBy(asked, slips), SUM);
    }

    public int lost(int way, int k) {
        Way asked = house.wayAt(way);
        if (asked == null) {
            return refuse(NOBODY);
        }
        if (k > house.comerCount()) {
            return refuse(BEYOND);
        }
        return k < 1 ? refuse(WRONG) : house.lostBy(asked, k);
    }

    public int turned(int way) {
        Way asked = house.wayAt(way);
        return asked == null ? refuse(NOBODY) : house.turnedBy(asked);
    }

    public int piece() {
        int piece = 0;
        int most = house.tellsOfNumber(0);
        for (int line = 1; line < LINES; line++) {
            int tells = house.tellsOfNumber(line);
            if (tells > most) {
                piece = line;
                most = tells;
            }
        }
        return piece;
    }

    public int comes(int n, int r) {
        return isNumberOfComers(n) && r >= 0 && r < n ? ordersWon(n, r) : refuse(WRONG);
    }

    public int lets(int n) {
        if (!isNumberOfComers(n)) {
            return refuse(WRONG);
        }
        int lets = 0;
        for (int r = 1; r < n; r++) {
            if (ordersWon(n, r) > ordersWon(n, lets)) {
                lets = r;
            }
        }
        return lets;
    }

    public int judge(int s) {
        Shelf shelf = shelfAt(s);
        if (shelf == null || !shelf.holdsRow()) {
            return refuse(whyNoRow(shelf));
        }
        return house.faultOfRanking(shelf);
    }

    public int told(int s) {
        Shelf shelf = shelfAt(s);
        if (shelf == null || !shelf.holdsRow()) {
            return refuseFar(whyNoRow(shelf));
        }
        return house.faultOfRanking(shelf) == NONE ? house.tellsOfRanking(shelf) : refuseFar(WRONG);
    }

    public int come(int n) {
        if (!isNumberOfComers(n)) {
            return refuse(WRONG);
        }
        int came = 0;
        while (came < n && house.hasRoomFor(WORD_COMER)) {
            house.addDrawnComer();
            came++;
        }
        return came;
    }

    public int clear() {
        return house.letComersGo();
    }

    public int seed(int v) {
        int was = house.seedNow();
        house.putSeed(v);
        return was;
    }

    public int act(int way, int act, int x) {
        trace.begin();
        Way asked = house.wayAt(way);
        if (asked == null) {
            return 0;
        }
        switch (act) {
            case 0:
                return asked.feels(x);
            case 1:
                return asked.asks(x);
            case 2:
                return asked.sums(x);
            default:
                return 0;
        }
    }

    public int trace(int i) {
        return trace.bodyAt(i);
    }

    public int image() {
        image.takeOver(house);
        imaged = true;
        return house.wayCount();
    }

    public int restore() {
        if (!imaged) {
            return refuse(WRONG);
        }
        house.takeOver(image);
        for (int s = 0; s < shelves.length; s++) {
            Shelf shelf = shelfAt(s);
            if (shelf != null && shelf.holdsWay() && house.wayAt(shelf.wayHeld()) == null) {
                shelf.holdWay(NONE);
            }
        }
        return house.wayCount();
    }

    public int status(int what) {
        switch (what) {
            case 0:
                return house.comerCount();
            case 1:
                return house.askerCount();
            case 2:
                return house.wayCount();
            case 3:
                return house.sumOfSums();
            case 4:
                return house.first();
            case 5:
                return house.seedNow();
            case 6:
                return trace.ran();
            default:
                return what > 10 && what <= 10 + ROOM ? refusals[what - 10] : NONE;
        }
    }

    private Shelf shelfAt(int s) {
        return s < 0 || s >= shelves.length ? null : shelves[s];
    }

    /** Only for a SHELF that is not there or holds no ROW. */
    private static int whyNoRow(Shelf shelf) {
        if (shelf == null) {
            return NOBODY;
        }
        return shelf.holdsWay() ? OTHER : NOTHING;
    }

    private int refuse(int refusal) {
        if (refusal >= 0 && refusal < refusals.length) {
            refusals[refusal]++;
        }
        return -refusal;
    }

    private int refuseFar(int refusal) {
        return refuse(refusal) - FAR;
    }

    private static boolean isUpTo(int number, int most) {
        return number >= 0 && number <= most;
    }

    private static boolean isNumberOfComers(int n) {
        return n >= 1 && n <= MOST_COMERS;
    }

    private int saysAs(Way way, int kind) {
        if (kind == WAY) {
            return way.a;
        }
        if (kind == TALKED && way instanceof Talked talked) {
            return talked.tenths();
        }
        if (kind == LINED && way instanceof Lined lined) {
            return lined.tenths();
        }
        if (kind == WORKED && way instanceof Worked worked) {
            return worked.line();
        }
        if (kind == LETTERED && way instanceof Lettered lettered) {
            return house.sumsBelow(lettered.a);
        }
        if (kind == MARKED && way instanceof Marked) {
            return house.firstGreatest(MARKS);
        }
        if (kind == BLIND && way instanceof Blind blind) {
            return house.takenWithNames(blind) == house.takenBy(blind, true) ? 0 : 1;
        }
        return refuse(OTHER);
    }

    /** The best is taken at a place behind the r that go by when the best ahead of that place is one of those r. */
    private static int ordersWon(int n, int r) {
        int othersOrders = factorial(n - 1);
        if (r == 0) {
            return othersOrders;
        }
        int orders = 0;
        for (int ahead = r; ahead < n; ahead++) {
            orders += ahead > 0 ? othersOrders / ahead * r : 0;
        }
        return orders;
    }

    private static int factorial(int n) {
        int product = 1;
        for (int k = 2; k <= n && k <= MOST_COMERS; k++) {
            product *= k;
        }
        return product;
    }

    /** Holds NOTHING, a ROW or a WAY's number. */
    private static final class Shelf {
        private final long[] elements;
        private int sort;
        private int size;
        private int way;

        Shelf() {
            elements = new long[MOST_ELEMENTS];
            sort = NONE;
            size = 0;
            way = NONE;
        }

        void holdRow(int newSort, int newSize) {
            way = NONE;
            sort = newSort;
            size = Math.max(0, Math.min(newSize, elements.length));
            Arrays.fill(elements, 0L);
        }

        void holdWay(int newWay) {
            way = newWay;
            sort = NONE;
            size = 0;
        }

        boolean holdsRow() {
            return sort != NONE;
        }

        boolean holdsWay() {
            return way != NONE;
        }

        boolean isOfOtherSort(Shelf other) {
            return holdsRow() && other.holdsRow() && sort != other.sort;
        }

        int sortHeld() {
            return sort;
        }

        int size() {
            return size;
        }

        int wayHeld() {
            return way;
        }

        /** By a difference: a sum of the two could wrap. */
        boolean hasRun(int from, int n) {
            return from >= 0 && n >= 0 && from <= size - n;
        }

        void put(int i, long v) {
            if (hasRun(i, 1)) {
                elements[i] = lowestBits(v);
            }
        }

        private long lowestBits(long v) {
            switch (sort) {
                case BYTES:
                    return (byte) v;
                case SHORTS:
                    return (short) v;
                case INTS:
                    return (int) v;
                default:
                    return v;
            }
        }

        void takeRun(Shelf other, int from, int to, int n) {
            if (other.hasRun(from, n) && hasRun(to, n)) {
                System.arraycopy(other.elements, from, elements, to, n);
            }
        }

        long longAt(int i) {
            return hasRun(i, 1) ? elements[i] : 0;
        }

        int intAt(int i) {
            return (int) longAt(i);
        }
    }

    /** The bodies that ran in the latest act. */
    private static final class Trace {
        private final int[] bodies;
        private int ran;

        Trace() {
            bodies = new int[MOST_TRACED];
            ran = 0;
        }

        void begin() {
            ran = 0;
        }

        void began(int body) {
            if (ran >= 0 && ran < bodies.length) {
                bodies[ran] = body;
            }
            ran++;
        }

        int ran() {
            return ran;
        }

        int bodyAt(int i) {
            return i < 0 || i >= ran || i >= bodies.length ? NONE : bodies[i];
        }
    }

    private static class Way {
        final int kind;
        final int number;
        final int a;
        final Trace trace;

        Way(int kind, int number, int a, Trace trace) {
            this.kind = kind;
            this.number = number;
            this.a = a;
            this.trace = trace;
        }

        int shown(House house, int asker, int comer) {
            return firstFeeling(house, asker, comer);
        }

        final int firstFeeling(House house, int asker, int comer) {
            return 30 * house.comerNumber(comer, LOOKS) + house.bonus(asker, comer);
        }

        int feels(int x) {
            trace.began(10);
            return x + number;
        }

        int asks(int x) {
            trace.began(11);
            return feels(x) * 2;
        }

        int sums(int x) {
            trace.began(12);
            return asks(x) ^ feels(x - a);
        }
    }

    private static class Talked extends Way {
        Talked(int kind, int number, int a, Trace trace) {
            super(kind, number, a, trace);
        }

        int tenths() {
            return a % 11;
        }

        int shown(House house, int asker, int comer) {
            int tenths = tenths();
            int feeling = firstFeeling(house, asker, comer);
            return (tenths * feeling + (10 - tenths) * 10 * house.comerNumber(comer, SUM)) / 10;
        }

        int feels(int x) {
            trace.began(20);
            return super.feels(x) + a;
        }
    }

    private static final class Lined extends Talked {
        Lined(int kind, int number, int a, Trace trace) {
            super(kind, number, a, trace);
        }

        int tenths() {
            return super.tenths() / 2;
        }

        int asks(int x) {
            trace.began(30);
            return super.asks(x) * 3;
        }
    }

    private static final class Worked extends Way {
        Worked(int kind, int number, int a, Trace trace) {
            super(kind, number, a, trace);
        }

        int line() {
            return a % LINES;
        }

        int shown(House house, int asker, int comer) {
            return 30 * house.comerNumber(comer, line());
        }

        int asks(int x) {
            trace.began(40);
            return super.asks(x + 1);
        }

        int sums(int x) {
            trace.began(41);
            return super.sums(x) - number;
        }
    }

    private static final class Lettered extends Way {
        Lettered(int kind, int number, int a, Trace trace) {
            super(kind, number, a, trace);
        }

        int shown(House house, int asker, int comer) {
            return house.comerNumber(comer, SUM) < a ? 260 : 270;
        }

        int sums(int x) {
            trace.began(50);
            return -super.sums(x);
        }
    }

    private static class Marked extends Way {
        Marked(int kind, int number, int a, Trace trace) {
            super(kind, number, a, trace);
        }

        int shown(House house, int asker, int comer) {
            return 30 * house.comerNumber(comer, MARKS) + house.bonus(asker, comer);
        }

        int feels(int x) {
            trace.began(60);
            return super.feels(x) * 2;
        }
    }

    private static final class Blind extends Marked {
        Blind(int kind, int number, int a, Trace trace) {
            super(kind, number, a, trace);
        }

        int shown(House house, int asker, int comer) {
            return 30 * house.comerNumber(comer, MARKS);
        }

        int shownWithNames(House house, int asker, int comer) {
            return super.shown(house, asker, comer);
        }

        int sums(int x) {
            trace.began(70);
            return super.sums(x) ^ 5;
        }

        int asks(int x) {
            trace.began(71);
            return super.asks(x - a);
        }
    }

    /** All that THE IMAGE keeps, and what comes of it. Rows of numbers for COMERS are made once and used again. */
    private static final class House {
        private final Trace trace;
        private final int[] comers;
        private int comerCount;
        private final int[] askers;
        private final int[] order;
        private int askerCount;
        private final Way[] ways;
        private int wayCount;
        private int seed;
        private final int[] numbers;
        private final int[] otherNumbers;

        House(Trace trace) {
            this.trace = trace;
            comers = new int[MOST_COMERS * COMER_NUMBERS];
            askers = new int[MOST_ASKERS * ASKER_NUMBERS];
            order = new int[MOST_ASKERS];
            ways = new Way[MOST_WAYS];
            numbers = new int[MOST_COMERS];
            otherNumbers = new int[MOST_COMERS];
            comerCount = 0;
            askerCount = 0;
            wayCount = 0;
            seed = 1;
        }

        void takeOver(House other) {
            System.arraycopy(other.comers, 0, comers, 0, comers.length);
            System.arraycopy(other.askers, 0, askers, 0, askers.length);
            System.arraycopy(other.order, 0, order, 0, order.length);
            for (int w = 0; w < ways.length; w++) {
                ways[w] = other.ways[w];
            }
            comerCount = other.comerCount;
            askerCount = other.askerCount;
            wayCount = other.wayCount;
            seed = other.seed;
        }

        int comerCount() {
            return comerCount;
        }

        int askerCount() {
            return askerCount;
        }

        int wayCount() {
            return wayCount;
        }

        int seedNow() {
            return seed;
        }

        void putSeed(int v) {
            seed = v;
        }

        boolean hasComer(int comer) {
            return comer >= 0 && comer < comerCount;
        }

        boolean hasAsker(int asker) {
            return asker >= 0 && asker < askerCount;
        }

        Way wayAt(int way) {
            return way < 0 || way >= wayCount || way >= ways.length ? null : ways[way];
        }

        boolean hasRoomFor(int word) {
            switch (word) {
                case WORD_COMER:
                    return comerCount < MOST_COMERS;
                case WORD_ASKER:
                    return askerCount < MOST_ASKERS;
                case WORD_WAY:
                    return wayCount < MOST_WAYS;
                default:
                    return true;
            }
        }

        /** 0 for what is not there. */
        int comerNumber(int comer, int what) {
            if (comer < 0 || comer >= comerCount || what < 0 || what > SUM) {
                return 0;
            }
            int at = comer * COMER_NUMBERS;
            return what == SUM ? comers[at] + comers[at + 1] + comers[at + 2] : comers[at + what];
        }

        void putComerNumber(int comer, int what, int v) {
            if (hasComer(comer) && what >= 0 && what < COMER_NUMBERS) {
                comers[comer * COMER_NUMBERS + what] = v;
            }
        }

        /** 0 for what is not there. */
        int askerNumber(int asker, int what) {
            if (asker < 0 || asker >= askerCount || what < 0 || what >= ASKER_NUMBERS) {
                return 0;
            }
            return askers[asker * ASKER_NUMBERS + what];
        }

        void putDrawn(int asker, int v) {
            if (hasAsker(asker)) {
                askers[asker * ASKER_NUMBERS + DRAWN] = v;
            }
        }

        int addComer(int[] six) {
            if (comerCount >= MOST_COMERS || six.length < COMER_NUMBERS) {
                return NONE;
            }
            System.arraycopy(six, 0, comers, comerCount * COMER_NUMBERS, COMER_NUMBERS);
            comerCount++;
            return comerCount - 1;
        }

        int addAsker(int school, int like, int drawn) {
            if (askerCount >= MOST_ASKERS) {
                return NONE;
            }
            int at = askerCount * ASKER_NUMBERS;
            askers[at + ASKER_SCHOOL] = school;
            askers[at + LIKE] = like;
            askers[at + DRAWN] = drawn;
            order[askerCount] = askerCount;
            askerCount++;
            return askerCount - 1;
        }

        int addWay(int kind, int a) {
            int number = wayCount;
            if (number >= MOST_WAYS) {
                return NONE;
            }
            switch (kind) {
                case TALKED:
                    ways[number] = new Talked(kind, number, a, trace);
                    break;
                case LINED:
                    ways[number] = new Lined(kind, number, a, trace);
                    break;
                case WORKED:
                    ways[number] = new Worked(kind, number, a, trace);
                    break;
                case LETTERED:
                    ways[number] = new Lettered(kind, number, a, trace);
                    break;
                case MARKED:
                    ways[number] = new Marked(kind, number, a, trace);
                    break;
                case BLIND:
                    ways[number] = new Blind(kind, number, a, trace);
                    break;
                default:
                    ways[number] = new Way(kind, number, a, trace);
                    break;
            }
            wayCount++;
            return number;
        }

        void addDrawnComer() {
            if (comerCount < MOST_COMERS) {
                int at = comerCount * COMER_NUMBERS;
                for (int what = 0; what < COMER_NUMBERS; what++) {
                    comers[at + what] = draw(MOST_OF_COMER[what] + 1);
                }
                comerCount++;
            }
        }

        private int draw(int n) {
            seed = seed * 1103515245 + 12345;
            return n > 0 ? (seed >>> 16) % n : 0;
        }

        int letComersGo() {
            int were = comerCount;
            comerCount = 0;
            return were;
        }

        int first() {
            return askerCount > 0 ? order[0] : NONE;
        }

        int placeOf(int asker) {
            for (int place = 0; place < askerCount; place++) {
                if (order[place] == asker) {
                    return place;
                }
            }
            return NONE;
        }

        int putFirst(int asker) {
            int was = placeOf(asker);
            if (was == NONE) {
                return NONE;
            }
            for (int place = was; place > 0; place--) {
                order[place] = order[place - 1];
            }
            order[0] = asker;
            return was;
        }

        int sumOfSums() {
            int sums = 0;
            for (int comer = 0; comer < comerCount; comer++) {
                sums += comerNumber(comer, SUM);
            }
            return sums;
        }

        int sumsBelow(int bound) {
            int below = 0;
            for (int comer = 0; comer < comerCount; comer++) {
                below += comerNumber(comer, SUM) < bound ? 1 : 0;
            }
            return below;
        }

        /** Without calls of its own: it stands at the end of the longest way down. */
        int bonus(int asker, int comer) {
            if (asker < 0 || asker >= askerCount || comer < 0 || comer >= comerCount) {
                return 0;
            }
            int at = asker * ASKER_NUMBERS;
            boolean alike = askers[at + ASKER_SCHOOL] == comers[comer * COMER_NUMBERS + COMER_SCHOOL];
            return alike ? 10 * askers[at + LIKE] : 0;
        }

        /** All that the first so many in ORDER SAID of a COMER; nobody is drawn by SLIPS, or with nobody ahead. */
        int saidByFirst(int many, Way way, boolean slips, int comer) {
            int said = 0;
            int together = 0;
            for (int place = 0; place < many && place < askerCount; place++) {
                int asker = order[place];
                int drawn = slips || place == 0 ? 0 : askerNumber(asker, DRAWN);
                said = ((10 - drawn) * way.shown(this, asker, comer) + drawn * said) / 10;
                together += said;
            }
            return together;
        }

        int saidBy(Way way, boolean slips, int asker, int comer) {
            int place = placeOf(asker);
            return saidByFirst(place + 1, way, slips, comer) - saidByFirst(place, way, slips, comer);
        }

        private void fillTotals(int[] into, Way way, boolean slips) {
            for (int comer = 0; comer < comerCount && comer < into.length; comer++) {
                into[comer] = saidByFirst(askerCount, way, slips, comer);
            }
        }

        private void fillOwn(int what) {
            for (int comer = 0; comer < comerCount; comer++) {
                numbers[comer] = comerNumber(comer, what);
            }
        }

        /** By the numbers: the COMER of the greatest, of several the first; NONE without COMERS. */
        private int greatest() {
            int greatest = NONE;
            int most = 0;
            for (int comer = 0; comer < comerCount; comer++) {
                if (greatest == NONE || numbers[comer] > most) {
                    greatest = comer;
                    most = numbers[comer];
                }
            }
            return greatest;
        }

        int firstGreatest(int what) {
            fillOwn(what);
            return greatest();
        }

        int bestSum() {
            return comerNumber(firstGreatest(SUM), SUM);
        }

        int takenBy(Way way, boolean slips) {
            fillTotals(numbers, way, slips);
            return greatest();
        }

        int takenWithNames(Blind way) {
            for (int comer = 0; comer < comerCount; comer++) {
                numbers[comer] = 0;
                for (int asker = 0; asker < askerCount; asker++) {
                    numbers[comer] += way.shownWithNames(this, asker, comer);
                }
            }
            return greatest();
        }

        int agreeing(Way way, int taken) {
            int agreeing = 0;
            for (int asker = 0; asker < askerCount; asker++) {
                for (int comer = 0; comer < comerCount; comer++) {
                    numbers[comer] = way.shown(this, asker, comer);
                }
                agreeing += greatest() == taken ? 1 : 0;
            }
            return agreeing;
        }

        int turnedBy(Way way) {
            fillTotals(otherNumbers, way, true);
            int turned = 0;
            for (int asker = 0; asker < askerCount; asker++) {
                for (int comer = 0; comer < comerCount; comer++) {
                    numbers[comer] = otherNumbers[comer] - way.shown(this, asker, comer);
                }
                int taken = greatest();
                turned |= taken == NONE ? 0 : 1 << taken;
            }
            return turned;
        }

        /** How a pair of COMERS tells by the numbers: 1, 0 or -1. */
        private int pairTells(int one, int other) {
            return sign(comerNumber(one, SUM), comerNumber(other, SUM)) * sign(numbers[one], numbers[other]);
        }

        private static int sign(int one, int other) {
            if (one == other) {
                return 0;
            }
            return one > other ? 1 : -1;
        }

        private int tellsByNumbers() {
            int tells = 0;
            for (int other = 1; other < comerCount; other++) {
                for (int one = 0; one < other; one++) {
                    tells += pairTells(one, other);
                }
            }
            return tells;
        }

        int tellsOf(Way way, boolean slips) {
            fillTotals(numbers, way, slips);
            return tellsByNumbers();
        }

        int tellsOfNumber(int what) {
            fillOwn(what);
            return tellsByNumbers();
        }

        int joinedTells(Way way, Way other, int x) {
            fillTotals(numbers, way, true);
            fillTotals(otherNumbers, other, true);
            for (int comer = 0; comer < comerCount; comer++) {
                numbers[comer] = x * numbers[comer] + (10 - x) * otherNumbers[comer];
            }
            return tellsByNumbers();
        }

        int rightedBy(Way way, int m) {
            fillTotals(numbers, way, true);
            for (int comer = 0; comer < comerCount; comer++) {
                otherNumbers[comer] = comerNumber(comer, MARKS);
            }
            int tells = 0;
            for (int other = 1; other < comerCount; other++) {
                for (int one = 0; one < other; one++) {
                    boolean among = rank(otherNumbers, one) < m && rank(otherNumbers, other) < m;
                    tells += among ? pairTells(one, other) : 0;
                }
            }
            return tells;
        }

        /** How many COMERS have a greater number, or the same and come first. */
        private int rank(int[] by, int comer) {
            int ahead = 0;
            for (int other = 0; other < comerCount; other++) {
                ahead += by[other] > by[comer] || (by[other] == by[comer] && other < comer) ? 1 : 0;
            }
            return ahead;
        }

        int lostBy(Way way, int k) {
            int lost = k * bestSum();
            fillTotals(numbers, way, true);
            for (int comer = 0; comer < comerCount; comer++) {
                lost -= rank(numbers, comer) < k ? comerNumber(comer, SUM) : 0;
            }
            return lost;
        }

        /** Each division by 10 leaves nothing: of 10,000 there is one 10 for each of four ASKERS. */
        int headsOf(int asker) {
            int place = placeOf(asker);
            int share = 1000 * (place == 0 ? 10 : 10 - askerNumber(asker, DRAWN));
            int heads = share;
            for (int next = place + 1; next > 0 && next < askerCount; next++) {
                share = share * askerNumber(order[next], DRAWN) / 10;
                heads += share;
            }
            return heads;
        }

        int faultOfRanking(Shelf ranking) {
            int seen = 0;
            for (int i = 0; i < comerCount; i++) {
                int comer = ranking.intAt(i);
                if (i >= ranking.size() || !hasComer(comer) || (seen & 1 << comer) != 0) {
                    return i;
                }
                seen |= 1 << comer;
            }
            return ranking.size() > comerCount ? comerCount : NONE;
        }

        int tellsOfRanking(Shelf ranking) {
            for (int i = 0; i < comerCount; i++) {
                int comer = ranking.intAt(i);
                if (hasComer(comer)) {
                    numbers[comer] = comerCount - i;
                }
            }
            return tellsByNumbers();
        }
    }

    /** Reads a HOUSE onto a draft, so that a FAULT leaves what there is as it was. */
    private static final class HouseText {
        private final House draft;
        private final int[] read;
        private int at;
        private int fault;

        HouseText(House draft) {
            this.draft = draft;
            read = new int[COMER_NUMBERS];
            at = 0;
            fault = NONE;
        }

        House draft() {
            return draft;
        }

        int faultFound() {
            return fault;
        }

        int read(Shelf row, House house) {
            draft.takeOver(house);
            at = 0;
            fault = NONE;
            int items = 0;
            boolean goesOn = true;
            while (goesOn && items <= row.size()) {
                readItem(row);
                items++;
                goesOn = fault == NONE && at < row.size();
                if (goesOn) {
                    pass(row, ';');
                    goesOn = fault == NONE;
                }
            }
            return items;
        }

        private void readItem(Shelf row) {
            int start = at;
            int word = readWord(row);
            if (word == NONE) {
                return;
            }
            if (!draft.hasRoomFor(word)) {
                fault = start;
                return;
            }
            int count = numbersBehind(word);
            for (int k = 0; k < count && fault == NONE; k++) {
                readNumber(row, k, mostOf(word, k));
            }
            if (fault == NONE) {
                tell(word);
            }
        }

        /** No word begins another one: so the one that goes furthest tells where the letters fail. */
        private int readWord(Shelf row) {
            int furthest = 0;
            for (int word = 0; word < WORDS; word++) {
                String letters = lettersOf(word);
                int alike = alikeFrom(row, letters);
                if (alike == letters.length()) {
                    at += alike;
                    return word;
                }
                furthest = Math.max(furthest, alike);
            }
            fault = at + furthest;
            return NONE;
        }

        private int alikeFrom(Shelf row, String letters) {
            int alike = 0;
            while (alike < letters.length() && row.intAt(at + alike) == letters.charAt(alike)) {
                alike++;
            }
            return alike;
        }

        private void readNumber(Shelf row, int k, int most) {
            pass(row, ' ');
            if (fault != NONE) {
                return;
            }
            int start = at;
            if (!isDigit(row)) {
                fault = at;
                return;
            }
            int number = row.intAt(at) - '0';
            at++;
            if (isDigit(row)) {
                number = number * 10 + row.intAt(at) - '0';
                at++;
            }
            if (number > most) {
                fault = start;
            } else if (k >= 0 && k < read.length) {
                read[k] = number;
            }
        }

        private boolean isDigit(Shelf row) {
            int letter = row.intAt(at);
            return letter >= '0' && letter <= '9';
        }

        private void pass(Shelf row, int letter) {
            if (row.intAt(at) == letter) {
                at++;
            } else {
                fault = at;
            }
        }

        private void tell(int word) {
            switch (word) {
                case WORD_COMER:
                    draft.addComer(read);
                    break;
                case WORD_ASKER:
                    draft.addAsker(read[ASKER_SCHOOL], read[LIKE], read[DRAWN]);
                    break;
                case WORD_WAY:
                    draft.addWay(read[0], read[1]);
                    break;
                default:
                    draft.putFirst(read[0]);
                    break;
            }
        }

        private static String lettersOf(int word) {
            switch (word) {
                case WORD_COMER:
                    return "comer";
                case WORD_ASKER:
                    return "asker";
                case WORD_WAY:
                    return "way";
                default:
                    return "chief";
            }
        }

        private static int numbersBehind(int word) {
            switch (word) {
                case WORD_COMER:
                    return COMER_NUMBERS;
                case WORD_ASKER:
                    return ASKER_NUMBERS;
                case WORD_WAY:
                    return WAY_NUMBERS;
                default:
                    return 1;
            }
        }

        /** The greatest that the k-th number behind a word may be. */
        private int mostOf(int word, int k) {
            if (word == WORD_COMER && k >= 0 && k < MOST_OF_COMER.length) {
                return MOST_OF_COMER[k];
            }
            if (word == WORD_ASKER && k >= 0 && k < MOST_OF_ASKER.length) {
                return MOST_OF_ASKER[k];
            }
            if (word == WORD_WAY && k >= 0 && k < MOST_OF_WAY.length) {
                return MOST_OF_WAY[k];
            }
            return draft.askerCount() - 1;
        }
    }
}
