/**
 * Every refused call of every promise: the number that it answers, that it is counted, that nothing else changes, and
 * which REFUSAL comes first where several fit. Each call is made in a house with room and in a full one.
 */
public final class RefusalTests {
    private static final int LEAST = Integer.MIN_VALUE;
    private static final int MOST = Integer.MAX_VALUE;
    private static final int NOBODY = 1;
    private static final int OTHER = 2;
    private static final int NOTHING = 3;
    private static final int BELOW = 4;
    private static final int BEYOND = 5;
    private static final int WRONG = 6;
    private static final int ROOM = 7;

    private static final int[] NO_SHELF = {-1, 8, LEAST, MOST};
    private static final int[] NO_KIND = {-1, 7, LEAST, MOST};
    private static final int[] BELOW_0 = {-1, LEAST};

    /** What the houses below hold in their SHELVES; SHELF 7 holds NOTHING. */
    private static final int THREE_BYTES = 0;
    private static final int SEVEN_LONGS = 1;
    private static final int A_WAY = 2;
    private static final int TWO_BYTES = 3;
    private static final int WRONG_TEXT = 4;
    private static final int EMPTY_ROW = 5;
    private static final int HOLDS_NOTHING = 7;

    private interface Call {
        long on(FourAskOne x);
    }

    private static boolean full;
    private static boolean faultMayChange;

    public static void main(String[] args) {
        Checks.sentence("Terms", "REFUSALS (the call answers the number; nothing changes but how many there were; "
            + "the first that fits, in this order)");
        for (int house = 0; house < 2; house++) {
            full = house == 1;
            promise2();
            promise3();
            promise4();
            promise6();
            promise8();
            promise9();
            promise10();
            promise11();
            promise12();
            promise13();
            promise14();
            promise15();
            promises16And17();
            promise18();
            promise20();
            promises21And22();
            promises23And25();
            promise26();
            promises28And29();
            promises30To32();
            promises33And34();
            promises36And37();
            promises38To40();
            nobody();
            other();
            nothing();
            below();
            beyond();
            wrong();
        }
        room();
        noComers();
        noWays();
        noImage();
        nothingIsRefused();
        Checks.end();
    }

    // the houses

    private static FourAskOne house() {
        FourAskOne x = new FourAskOne();
        x.come(2);
        x.asker(1, 6, 4);
        x.way(1, 13);
        x.image();
        x.come(full ? 6 : 1);
        for (int n = 1; n < (full ? 4 : 2); n++) {
            x.asker(n, 3 + n, 10 - n);
        }
        for (int n = 1; n < (full ? 8 : 3); n++) {
            x.way(n % 7, 10 * n);
        }
        x.chief(1);
        fill(x, THREE_BYTES, 0, 5, 6, 7);
        fill(x, SEVEN_LONGS, 3, 9, 9, 9, 9, 3, 9, 10);
        x.show(A_WAY, 2);
        fill(x, TWO_BYTES, 0, 8, 9);
        fill(x, WRONG_TEXT, 0, 'w', 'a', 'x');
        x.row(EMPTY_ROW, 0, 0);
        x.house(WRONG_TEXT);
        x.act(2, 2, 77);
        return x;
    }

    private static void fill(FourAskOne x, int s, int sort, long... values) {
        x.row(s, sort, values.length);
        for (int i = 0; i < values.length; i++) {
            x.set(s, i, values[i]);
        }
    }

    /** All that can be seen but the REFUSALS, seen by calls that refuse nothing. */
    private static String seen(FourAskOne x) {
        StringBuilder all = new StringBuilder();
        for (int s = 0; s < 8; s++) {
            all.append(x.holds(s)).append(':');
            for (int i = 0; i < 7; i++) {
                all.append(x.element(s, i)).append(' ');
            }
        }
        for (int what = 0; what <= 6; what++) {
            all.append(x.status(what)).append(';');
        }
        numbers(all, x);
        for (int i = 0; i < x.status(6); i++) {
            all.append(x.trace(i)).append(',');
        }
        return all.append(faultMayChange ? 0 : x.fault()).toString();
    }

    private static void numbers(StringBuilder all, FourAskOne x) {
        for (int n = 0; n < x.status(0); n++) {
            for (int what = 0; what < 6; what++) {
                all.append(x.comerOf(n, what));
            }
        }
        for (int n = 0; n < x.status(1); n++) {
            for (int what = 0; what <= 3; what++) {
                all.append(x.askerOf(n, what));
            }
        }
        for (int n = 0; n < x.status(2); n++) {
            all.append(x.wayOf(n, 0)).append(x.wayOf(n, 1));
        }
    }

    // one refused call, beside the same house without it

    private static void refused(String what, int refusal, long answer, Call call) {
        FourAskOne without = house();
        FourAskOne with = house();
        String name = what + (full ? ", in a full house" : "");
        Checks.due(name, call.on(with), answer);
        for (int number = 1; number <= 7; number++) {
            int more = number == refusal ? 1 : 0;
            Checks.due(name + ", REFUSALS " + number, with.status(10 + number), without.status(10 + number) + more);
        }
        Checks.same(name, seen(with), seen(without));
        with.restore();
        without.restore();
        Checks.same(name + ", THE IMAGE", seen(with), seen(without));
    }

    private static void refused(String what, int refusal, Call call) {
        refused(what, refusal, -refusal, call);
    }

    private static void refusedFar(String what, int refusal, Call call) {
        refused(what, refusal, -1000 - refusal, call);
    }

    private static int[] noComer() {
        return new int[] {-1, full ? 8 : 3, LEAST, MOST};
    }

    private static int[] noAsker() {
        return new int[] {-1, full ? 4 : 2, LEAST, MOST};
    }

    private static int[] noWay() {
        return new int[] {-1, full ? 8 : 3, LEAST, MOST};
    }

    private static int[] outOf(int least, int most) {
        return new int[] {least - 1, most + 1, LEAST, MOST};
    }

    // the promises

    private static void promise2() {
        Checks.promise(2, "-1; -4; -6 SORT; -7 n above 160.");
        for (int s : NO_SHELF) {
            refused("row of SHELF " + s, NOBODY, x -> x.row(s, 0, 1));
            refused("row of SHELF " + s + ", size, SORT", NOBODY, x -> x.row(s, 4, -1));
        }
        for (int n : BELOW_0) {
            refused("row of size " + n, BELOW, x -> x.row(THREE_BYTES, 0, n));
            refused("row of size " + n + ", SORT", BELOW, x -> x.row(THREE_BYTES, 4, n));
        }
        for (int sort : outOf(0, 3)) {
            refused("row of SORT " + sort, WRONG, x -> x.row(THREE_BYTES, sort, 1));
            refused("row of SORT " + sort + ", size", WRONG, x -> x.row(HOLDS_NOTHING, sort, 161));
        }
        for (int n : new int[] {161, MOST}) {
            refused("row of size " + n, ROOM, x -> x.row(THREE_BYTES, 0, n));
            refused("row of size " + n, ROOM, x -> x.row(A_WAY, 3, n));
        }
    }

    private static void promise3() {
        Checks.promise(3, "-1; -2; -3; -5.");
        for (int s : NO_SHELF) {
            refused("set of SHELF " + s, NOBODY, x -> x.set(s, 0, 1));
        }
        for (int i : new int[] {-1, 0, LEAST, MOST}) {
            refused("set of a WAY", OTHER, x -> x.set(A_WAY, i, 1));
            refused("set of NOTHING", NOTHING, x -> x.set(HOLDS_NOTHING, i, 1));
            refused("set of an empty ROW", BEYOND, x -> x.set(EMPTY_ROW, i, 1));
        }
        for (int i : outOf(0, 2)) {
            refused("set of element " + i, BEYOND, x -> x.set(THREE_BYTES, i, 1));
        }
    }

    private static void promise4() {
        Checks.promise(4, "-1; -2 also of two SORTS (when both hold something); -3 either; -4 n; "
            + "-5 i or j below 0, or an end that isn't there.");
        for (int s : NO_SHELF) {
            refused("copy from SHELF " + s, NOBODY, x -> x.copy(s, A_WAY, 0, 0, 1));
            refused("copy to SHELF " + s, NOBODY, x -> x.copy(HOLDS_NOTHING, s, 0, 0, -1));
        }
        int[] others = {THREE_BYTES, A_WAY, HOLDS_NOTHING};
        for (int s : others) {
            refused("copy from a WAY to " + s, OTHER, x -> x.copy(A_WAY, s, -1, -1, -1));
            refused("copy to a WAY from " + s, OTHER, x -> x.copy(s, A_WAY, -1, -1, -1));
        }
        refused("copy of two SORTS", OTHER, x -> x.copy(THREE_BYTES, SEVEN_LONGS, -1, -1, -1));
        refused("copy of two SORTS", OTHER, x -> x.copy(SEVEN_LONGS, EMPTY_ROW, 0, 0, 0));
        for (int s : new int[] {THREE_BYTES, SEVEN_LONGS, HOLDS_NOTHING}) {
            refused("copy from NOTHING", NOTHING, x -> x.copy(HOLDS_NOTHING, s, -1, -1, -1));
            refused("copy to NOTHING", NOTHING, x -> x.copy(s, HOLDS_NOTHING, -1, -1, -1));
        }
        for (int n : BELOW_0) {
            refused("copy of " + n, BELOW, x -> x.copy(THREE_BYTES, TWO_BYTES, -1, -1, n));
        }
        for (int at : BELOW_0) {
            refused("copy from " + at, BEYOND, x -> x.copy(THREE_BYTES, TWO_BYTES, at, 0, 1));
            refused("copy to " + at, BEYOND, x -> x.copy(THREE_BYTES, TWO_BYTES, 0, at, 1));
            refused("copy of none from " + at, BEYOND, x -> x.copy(THREE_BYTES, TWO_BYTES, at, 0, 0));
            refused("copy of none to " + at, BEYOND, x -> x.copy(THREE_BYTES, TWO_BYTES, 0, at, 0));
        }
        copyEnds();
    }

    private static void copyEnds() {
        int[][] ends = {{3, 0, 1}, {2, 0, 2}, {0, 2, 1}, {0, 1, 2}, {0, 0, 3}, {4, 0, 0}, {0, 3, 0}, {MOST, 0, 1},
            {0, MOST, 1}, {MOST, 0, 0}, {0, MOST, 0}, {0, 0, MOST}, {1, 1, MOST}, {MOST, MOST, MOST}};
        for (int[] e : ends) {
            refused("copy from " + e[0] + " to " + e[1] + " of " + e[2], BEYOND,
                x -> x.copy(THREE_BYTES, TWO_BYTES, e[0], e[1], e[2]));
        }
        refused("copy on itself", BEYOND, x -> x.copy(THREE_BYTES, THREE_BYTES, 0, 1, 3));
        refused("copy of an empty ROW", BEYOND, x -> x.copy(EMPTY_ROW, EMPTY_ROW, 0, 0, 1));
    }

    private static void promise6() {
        Checks.promise(6, "1, 0. -1.");
        for (int s : NO_SHELF) {
            refused("show in SHELF " + s, NOBODY, x -> x.show(s, 0));
            refused("show of NOTHING in SHELF " + s, NOBODY, x -> x.show(s, -1));
        }
        for (int way : new int[] {-2, full ? 8 : 3, LEAST, MOST}) {
            refused("show of WAY " + way, NOBODY, x -> x.show(HOLDS_NOTHING, way));
            refused("show of WAY " + way, NOBODY, x -> x.show(THREE_BYTES, way));
            refused("show of WAY " + way, NOBODY, x -> x.show(A_WAY, way));
        }
    }

    private static void promise8() {
        Checks.promise(8, "-1 SHELF, KIND; -2 also a WAY of another KIND; -3.");
        for (int s : NO_SHELF) {
            refused("says of SHELF " + s, NOBODY, x -> x.says(s, 0));
        }
        for (int kind : NO_KIND) {
            refused("says of KIND " + kind, NOBODY, x -> x.says(A_WAY, kind));
            refused("says of KIND " + kind + " and a ROW", NOBODY, x -> x.says(THREE_BYTES, kind));
            refused("says of KIND " + kind + " and NOTHING", NOBODY, x -> x.says(HOLDS_NOTHING, kind));
        }
        for (int kind = 0; kind < 7; kind++) {
            int as = kind;
            refused("says of a ROW as " + kind, OTHER, x -> x.says(THREE_BYTES, as));
            refused("says of NOTHING as " + kind, NOTHING, x -> x.says(HOLDS_NOTHING, as));
            if (kind > 2) {
                // the WAY there is LINED
                refused("says of another KIND, " + kind, OTHER, x -> x.says(A_WAY, as));
            }
        }
    }

    private static void promise9() {
        Checks.promise(9, "-1; -2; -3; -5; -6; -7.");
        for (int s : NO_SHELF) {
            refused("comer of SHELF " + s, NOBODY, x -> x.comer(s, -1));
        }
        refused("comer of a WAY", OTHER, x -> x.comer(A_WAY, -1));
        refused("comer of NOTHING", NOTHING, x -> x.comer(HOLDS_NOTHING, -1));
        for (int i : outOf(0, 1)) {
            refused("comer at " + i, BEYOND, x -> x.comer(SEVEN_LONGS, i));
        }
        refused("comer of three elements", BEYOND, x -> x.comer(THREE_BYTES, 0));
        refused("comer of none", BEYOND, x -> x.comer(EMPTY_ROW, 0));
        refused("comer of SCHOOL 9 and MARKS 10", WRONG, x -> x.comer(SEVEN_LONGS, 1));
    }

    private static void promise10() {
        Checks.promise(10, "An ASKER: the number. -6; -7.");
        for (int v : outOf(0, 3)) {
            refused("asker of SCHOOL " + v, WRONG, x -> x.asker(v, 1, 1));
        }
        for (int v : outOf(0, 9)) {
            refused("asker of LIKE " + v, WRONG, x -> x.asker(1, v, 1));
        }
        for (int v : outOf(0, 10)) {
            refused("asker of DRAWN " + v, WRONG, x -> x.asker(1, 1, v));
        }
    }

    private static void promise11() {
        Checks.promise(11, "-1 KIND; -6 a; -7.");
        for (int kind : NO_KIND) {
            refused("way of KIND " + kind, NOBODY, x -> x.way(kind, 1));
            refused("way of KIND " + kind + " and a", NOBODY, x -> x.way(kind, 100));
        }
        for (int v : outOf(0, 99)) {
            refused("way of a " + v, WRONG, x -> x.way(6, v));
        }
    }

    private static void promise12() {
        Checks.promise(12, "-5: no such one, another what.");
        for (int n : noComer()) {
            refused("comerOf " + n, BEYOND, x -> x.comerOf(n, 0));
        }
        for (int what : outOf(0, 6)) {
            refused("comerOf number " + what, BEYOND, x -> x.comerOf(0, what));
            refused("comerOf the last, number " + what, BEYOND, x -> x.comerOf(x.status(0) - 1, what));
        }
    }

    private static void promise13() {
        Checks.promise(13, "-5: no such one, another what.");
        for (int n : noAsker()) {
            refused("askerOf " + n, BEYOND, x -> x.askerOf(n, 0));
            refused("askerOf " + n + ", place", BEYOND, x -> x.askerOf(n, 3));
        }
        for (int what : outOf(0, 3)) {
            refused("askerOf number " + what, BEYOND, x -> x.askerOf(0, what));
            refused("askerOf the last, number " + what, BEYOND, x -> x.askerOf(x.status(1) - 1, what));
        }
    }

    private static void promise14() {
        Checks.promise(14, "-5: no such one, another what.");
        for (int n : noWay()) {
            refused("wayOf " + n, BEYOND, x -> x.wayOf(n, 0));
        }
        for (int what : outOf(0, 1)) {
            refused("wayOf number " + what, BEYOND, x -> x.wayOf(0, what));
            refused("wayOf the last, number " + what, BEYOND, x -> x.wayOf(x.status(2) - 1, what));
        }
    }

    private static void promise15() {
        Checks.promise(15, "-1; -5 another number; -6.");
        for (int n : noComer()) {
            refused("change of " + n, NOBODY, x -> x.change(n, 0, 1));
            refused("change of " + n + ", number, v", NOBODY, x -> x.change(n, 6, 10));
        }
        for (int what : outOf(0, 5)) {
            refused("change of number " + what, BEYOND, x -> x.change(0, what, 1));
            refused("change of number " + what + ", v", BEYOND, x -> x.change(0, what, 10));
        }
        for (int what = 0; what < 6; what++) {
            int number = what;
            for (int v : outOf(0, what == 4 ? 3 : 9)) {
                refused("change of number " + what + " to " + v, WRONG, x -> x.change(1, number, v));
            }
        }
    }

    private static void promises16And17() {
        Checks.promise(16, "what it was. -1; -6.");
        for (int n : noAsker()) {
            refused("drawn of " + n, NOBODY, x -> x.drawn(n, 1));
            refused("drawn of " + n + ", v", NOBODY, x -> x.drawn(n, 11));
        }
        for (int v : outOf(0, 10)) {
            refused("drawn to " + v, WRONG, x -> x.drawn(1, v));
        }
        Checks.promise(17, "the place it had. -1.");
        for (int n : noAsker()) {
            refused("chief " + n, NOBODY, x -> x.chief(n));
        }
    }

    private static void promise18() {
        Checks.promise(18, "-1; -2; -3; -6 a FAULT.");
        for (int s : NO_SHELF) {
            refused("house of SHELF " + s, NOBODY, x -> x.house(s));
        }
        refused("house of a WAY", OTHER, x -> x.house(A_WAY));
        refused("house of NOTHING", NOTHING, x -> x.house(HOLDS_NOTHING));
        faultMayChange = true;
        refused("house with a FAULT", WRONG, x -> x.house(WRONG_TEXT));
        refused("house of no text", WRONG, x -> x.house(SEVEN_LONGS));
        refused("house of no elements", WRONG, x -> x.house(EMPTY_ROW));
        faultMayChange = false;
    }

    private static void promise20() {
        Checks.promise(20, "What a WAY SHOWS an ASKER of a COMER. -1.");
        for (int way : noWay()) {
            refused("shows by " + way, NOBODY, x -> x.shows(way, 0, 0));
        }
        for (int n : noAsker()) {
            refused("shows to " + n, NOBODY, x -> x.shows(0, n, 0));
        }
        for (int n : noComer()) {
            refused("shows of " + n, NOBODY, x -> x.shows(0, 0, n));
            refused("nobody at all", NOBODY, x -> x.shows(n, n, n));
        }
    }

    private static void promises21And22() {
        Checks.promise(21, "by SLIPS or in ORDER. -1.");
        for (boolean slips : new boolean[] {true, false}) {
            for (int way : noWay()) {
                refused("said by " + way, NOBODY, x -> x.said(way, slips, 0, 0));
            }
            for (int n : noAsker()) {
                refused("said by asker " + n, NOBODY, x -> x.said(0, slips, n, 0));
            }
            for (int n : noComer()) {
                refused("said of " + n, NOBODY, x -> x.said(0, slips, 0, n));
            }
        }
        Checks.promise(22, "TOTAL. -1.");
        for (boolean slips : new boolean[] {true, false}) {
            for (int way : noWay()) {
                refused("total by " + way, NOBODY, x -> x.total(way, slips, 0));
            }
            for (int n : noComer()) {
                refused("total of " + n, NOBODY, x -> x.total(0, slips, n));
            }
        }
    }

    private static void promises23And25() {
        Checks.promise(23, "-11 WAY (counted as -1).");
        for (int way : noWay()) {
            refused("taken by slips by " + way, NOBODY, -11, x -> x.taken(way, true));
            refused("taken in ORDER by " + way, NOBODY, -11, x -> x.taken(way, false));
        }
        Checks.promise(25, "-1001 (counted as -1).");
        for (int way : noWay()) {
            refusedFar("tells by slips by " + way, NOBODY, x -> x.tells(way, true));
            refusedFar("tells in ORDER by " + way, NOBODY, x -> x.tells(way, false));
        }
    }

    private static void promise26() {
        Checks.promise(26, "-1001; -1006 m (counted as -1, -6).");
        for (int way : noWay()) {
            refusedFar("righted by " + way, NOBODY, x -> x.righted(way, 2));
            refusedFar("righted by " + way + ", m", NOBODY, x -> x.righted(way, 1));
        }
        for (int m : outOf(2, 8)) {
            refusedFar("righted of " + m, WRONG, x -> x.righted(0, m));
        }
        refusedFar("righted of 0", WRONG, x -> x.righted(0, 0));
    }

    private static void promises28And29() {
        Checks.promise(28, "-1001; -1006 (counted as -1, -6).");
        for (int way : noWay()) {
            refusedFar("joined of " + way, NOBODY, x -> x.joined(way, 0, 11));
            refusedFar("joined with " + way, NOBODY, x -> x.joined(0, way, -1));
            refusedFar("joined of both " + way, NOBODY, x -> x.joined(way, way, 5));
        }
        for (int tenths : outOf(0, 10)) {
            refusedFar("joined with " + tenths, WRONG, x -> x.joined(0, 1, tenths));
        }
        Checks.promise(29, "The x of JOINED. -1.");
        for (int way : noWay()) {
            refused("weights of " + way, NOBODY, x -> x.weights(way, 0));
            refused("weights with " + way, NOBODY, x -> x.weights(0, way));
        }
    }

    private static void promises30To32() {
        Checks.promise(30, "HEADS. -1.");
        for (int n : noAsker()) {
            refused("heads of " + n, NOBODY, x -> x.heads(n));
        }
        Checks.promise(31, "-1; -5 no COMERS.");
        for (int way : noWay()) {
            refused("agree by " + way, NOBODY, x -> x.agree(way));
        }
        Checks.promise(32, "-1; -5 no COMERS.");
        for (int way : noWay()) {
            refused("wrong by slips by " + way, NOBODY, x -> x.wrong(way, true));
            refused("wrong in ORDER by " + way, NOBODY, x -> x.wrong(way, false));
        }
    }

    private static void promises33And34() {
        Checks.promise(33, "-1; -5 fewer COMERS than k; -6 k.");
        for (int way : noWay()) {
            for (int k : new int[] {1, 0, 9}) {
                refused("lost by " + way + ", " + k, NOBODY, x -> x.lost(way, k));
            }
        }
        for (int k : new int[] {full ? 9 : 4, 9, MOST}) {
            refused("lost among " + k, BEYOND, x -> x.lost(0, k));
        }
        for (int k : new int[] {0, -1, LEAST}) {
            refused("lost among " + k, WRONG, x -> x.lost(0, k));
        }
        Checks.promise(34, "TURNED (bits; no COMERS: 0). -1.");
        for (int way : noWay()) {
            refused("turned by " + way, NOBODY, x -> x.turned(way));
        }
    }

    private static void promises36And37() {
        Checks.promise(36, "in how many orders. -6.");
        for (int n : outOf(1, 8)) {
            refused("comes of n " + n, WRONG, x -> x.comes(n, 0));
        }
        for (int n = 1; n <= 8; n++) {
            int all = n;
            for (int r : outOf(0, n - 1)) {
                refused("comes of n " + n + " and r " + r, WRONG, x -> x.comes(all, r));
            }
        }
        Checks.promise(37, "The r. -6.");
        for (int n : outOf(1, 8)) {
            refused("lets of n " + n, WRONG, x -> x.lets(n));
        }
    }

    private static void promises38To40() {
        Checks.promise(38, "NONE. -1; -2; -3.");
        for (int s : NO_SHELF) {
            refused("judge of SHELF " + s, NOBODY, x -> x.judge(s));
        }
        refused("judge of a WAY", OTHER, x -> x.judge(A_WAY));
        refused("judge of NOTHING", NOTHING, x -> x.judge(HOLDS_NOTHING));
        Checks.promise(39, "-1001; -1002; -1003; -1006 it may not be (counted as -1, -2, -3, -6).");
        for (int s : NO_SHELF) {
            refusedFar("told of SHELF " + s, NOBODY, x -> x.told(s));
        }
        refusedFar("told of a WAY", OTHER, x -> x.told(A_WAY));
        refusedFar("told of NOTHING", NOTHING, x -> x.told(HOLDS_NOTHING));
        refusedFar("told of what may not be", WRONG, x -> x.told(SEVEN_LONGS));
        refusedFar("told of no elements", WRONG, x -> x.told(EMPTY_ROW));
        Checks.promise(40, "until there is no room: how many. -6.");
        for (int n : outOf(1, 8)) {
            refused("come of n " + n, WRONG, x -> x.come(n));
        }
    }

    // the REFUSALS

    private static void nobody() {
        Checks.sentence("Terms", "-1 NOBODY: no such SHELF, COMER, ASKER, WAY, KIND, LINE.");
        refused("no such SHELF", NOBODY, x -> x.row(8, 0, 0));
        refused("no such COMER", NOBODY, x -> x.change(x.status(0), 0, 0));
        refused("no such ASKER", NOBODY, x -> x.drawn(x.status(1), 0));
        refused("no such WAY", NOBODY, x -> x.turned(x.status(2)));
        refused("no such KIND", NOBODY, x -> x.way(7, 0));
    }

    private static void other() {
        Checks.sentence("Terms", "-2 OTHER: a SHELF that holds a WAY where a ROW is wanted, or the other way about, "
            + "ROWS of two SORTS, a WAY that isn't of the KIND wanted, or one under it.");
        refused("a WAY where a ROW is wanted", OTHER, x -> x.set(A_WAY, 0, 0));
        refused("a ROW where a WAY is wanted", OTHER, x -> x.says(EMPTY_ROW, 0));
        refused("ROWS of two SORTS", OTHER, x -> x.copy(EMPTY_ROW, SEVEN_LONGS, 0, 0, 0));
        refused("a LINED WAY for a WORKED one", OTHER, x -> x.says(A_WAY, 3));
        FourAskOne lined = house();
        Checks.due("a LINED WAY, of KIND TALKED or one under it", lined.says(A_WAY, 1), 4);
        FourAskOne talked = new FourAskOne();
        talked.way(1, 13);
        talked.show(A_WAY, 0);
        refusedOn(talked, "a TALKED WAY for a LINED one", OTHER, talked.says(A_WAY, 2));
    }

    private static void nothing() {
        Checks.sentence("Terms", "-3 NOTHING: a SHELF that holds NOTHING.");
        refused("where a ROW is wanted", NOTHING, x -> x.comer(HOLDS_NOTHING, 0));
        refused("where a WAY is wanted", NOTHING, x -> x.says(HOLDS_NOTHING, 0));
    }

    private static void below() {
        Checks.sentence("Terms", "-4 BELOW: a size below 0.");
        refused("of a ROW", BELOW, x -> x.row(EMPTY_ROW, 0, -1));
        refused("of what is copied", BELOW, x -> x.copy(EMPTY_ROW, EMPTY_ROW, 0, 0, -1));
        Checks.due("0 is a size", house().row(EMPTY_ROW, 0, 0), 1);
        Checks.due("0 is a size", house().copy(EMPTY_ROW, EMPTY_ROW, 0, 0, 0), 1);
    }

    private static void beyond() {
        Checks.sentence("Terms", "-5 BEYOND: an element that isn't there; nothing such to be told of.");
        refused("an element", BEYOND, x -> x.set(THREE_BYTES, 3, 0));
        refused("nothing such to be told of", BEYOND, x -> x.comerOf(x.status(0), 0));
    }

    private static void wrong() {
        Checks.sentence("Terms", "-6 WRONG: a number that may not be, a FAULT, what can't be as things stand.");
        refused("a number that may not be", WRONG, x -> x.lets(9));
        faultMayChange = true;
        refused("a FAULT", WRONG, x -> x.house(THREE_BYTES));
        faultMayChange = false;
    }

    private static void room() {
        Checks.sentence("Terms", "-7 ROOM: more than may be.");
        full = true;
        refused("a ROW of 161 elements", ROOM, x -> x.row(HOLDS_NOTHING, 0, 161));
        refused("comer without room", ROOM, x -> x.comer(SEVEN_LONGS, 0));
        refused("asker without room", ROOM, x -> x.asker(3, 9, 10));
        refused("way without room", ROOM, x -> x.way(6, 99));
    }

    /** Where no such house as above is asked: the REFUSAL is the first there was. */
    private static void refusedOn(FourAskOne x, String what, int refusal, long answer) {
        Checks.due(what, answer, -refusal);
        for (int number = 1; number <= 7; number++) {
            Checks.due(what + ", REFUSALS " + number, x.status(10 + number), number == refusal ? 1 : 0);
        }
    }

    private static FourAskOne withoutComers() {
        FourAskOne x = new FourAskOne();
        x.way(0, 0);
        x.asker(0, 0, 0);
        return x;
    }

    private static void noComers() {
        FourAskOne x = withoutComers();
        Checks.promise(24, "BEST. -5 no COMERS.");
        refusedOn(x, "best", BEYOND, x.best());
        Checks.promise(31, "-1; -5 no COMERS.");
        x = withoutComers();
        refusedOn(x, "agree", BEYOND, x.agree(0));
        x = withoutComers();
        refusedOn(x, "agree without the WAY", NOBODY, x.agree(1));
        Checks.promise(32, "-1; -5 no COMERS.");
        x = withoutComers();
        refusedOn(x, "wrong by slips", BEYOND, x.wrong(0, true));
        x = withoutComers();
        refusedOn(x, "wrong in ORDER", BEYOND, x.wrong(0, false));
        x = withoutComers();
        refusedOn(x, "wrong without the WAY", NOBODY, x.wrong(1, true));
        Checks.promise(33, "-1; -5 fewer COMERS than k; -6 k.");
        x = withoutComers();
        refusedOn(x, "lost among 1", BEYOND, x.lost(0, 1));
        x = withoutComers();
        refusedOn(x, "lost among 0", WRONG, x.lost(0, 0));
    }

    private static void noWays() {
        Checks.promise(27, "-5 no WAYS.");
        FourAskOne x = new FourAskOne();
        x.come(8);
        refusedOn(x, "head", BEYOND, x.head());
    }

    private static void noImage() {
        Checks.promise(46, "-6 there is none.");
        FourAskOne x = Checks.smallHouse();
        refusedOn(x, "restore", WRONG, x.restore());
        Checks.due("ways as they were", x.status(2), 7);
    }

    /** Of these the document names no REFUSAL: whatever they are asked, none is counted. */
    private static void nothingIsRefused() {
        Checks.promise(42, "(nothing is refused)");
        FourAskOne x = withoutComers();
        for (int v : new int[] {-1, 0, 1, 8, LEAST, MOST}) {
            x.element(v, 0);
            x.element(0, v);
            x.holds(v);
            x.seed(v);
            x.act(v, 0, v);
            x.act(0, v, v);
            x.trace(v);
            x.status(v);
        }
        x.fault();
        x.head();
        x.piece();
        x.clear();
        x.image();
        x.restore();
        x.taken(0, true);
        x.tells(0, true);
        x.turned(0);
        Checks.refused(x, 0, 0, 0, 0, 0, 0, 0);
    }
}
