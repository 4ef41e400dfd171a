/**
 * Every refused call of every promise: the number that it answers, that it is counted, that nothing else changes, and
 * which REFUSAL comes first where several fit. Each call is made in a house with room and in a full one.
 */
public final class RefusalTests {
    private static final int LEAST = Integer.MIN_VALUE;
    private static final int MOST = Integer.MAX_VALUE;
    private static final int NOBODY = 1;
    private static final int OTHER = 2;
    private static final int NOTHING = 3;
    private static final int BELOW = 4;
    private static final int BEYOND = 5;
    private static final int WRONG = 6;
    private static final int ROOM = 7;

    private static final int[] NO_SHELF = {-1, 8, LEAST, MOST};
    private static final int[] NO_KIND = {-1, 7, LEAST, MOST};
    private static final int[] BELOW_0 = {-1, LEAST};

    /** What the houses below hold in their SHELVES; SHELF 7 holds NOTHING. */
    private static final int THREE_BYTES = 0;
    private static final int SEVEN_LONGS = 1;
    private static final int A_WAY = 2;
    private static final int TWO_BYTES = 3;
    private static final int WRONG_TEXT = 4;
    private static final int EMPTY_ROW = 5;
    private static final int HOLDS_NOTHING = 7;

    private interface Call {
        long on(FourAskOne x);
    }

    private static boolean full;
    private static boolean faultMayChange;

    public static void main(String[] args) {
        Checks.sentence("Terms", "REFUSALS (the call answers the number; nothing changes but how many there were; "
            + "the first that fits, in this order)");
        for (int house = 0; house < 2; house++) {
            full = house == 1;
            promise2();
            promise3();
            promise4();
            promises6And8();
            promises9To11();
            promises12To14();
            promises15To17();
            promise18();
            promises20To22();
            promises23To26();
            promises28To31();
            promises32To34();
            promises36To40();
        }
        noRoom();
        noComers();
        noWays();
        noImage();
        nothingIsRefused();
        Checks.end();
    }

    // the houses

    private static FourAskOne house() {
        FourAskOne x = new FourAskOne();
        x.come(2);
        x.asker(1, 6, 4);
        x.way(1, 13);
        x.image();
        x.come(full ? 6 : 1);
        for (int n = 1; n < (full ? 4 : 2); n++) {
            x.asker(n, 3 + n, 10 - n);
        }
        for (int n = 1; n < (full ? 8 : 3); n++) {
            x.way(n % 7, 10 * n);
        }
        x.chief(1);
        fill(x, THREE_BYTES, 0, 5, 6, 7);
        fill(x, SEVEN_LONGS, 3, 9, 9, 9, 9, 3, 9, 10);
        x.show(A_WAY, 2);
        fill(x, TWO_BYTES, 0, 8, 9);
        fill(x, WRONG_TEXT, 0, 'w', 'a', 'x');
        x.row(EMPTY_ROW, 0, 0);
        x.house(WRONG_TEXT);
        x.act(2, 2, 77);
        return x;
    }

    private static void fill(FourAskOne x, int s, int sort, long... values) {
        x.row(s, sort, values.length);
        for (int i = 0; i < values.length; i++) {
            x.set(s, i, values[i]);
        }
    }

    /** All that can be seen but the REFUSALS, seen by calls that refuse nothing. */
    private static String seen(FourAskOne x) {
        StringBuilder all = new StringBuilder();
        for (int s = 0; s < 8; s++) {
            all.append(x.holds(s)).append(':');
            for (int i = 0; i < 7; i++) {
                all.append(x.element(s, i)).append(' ');
            }
        }
        for (int what = 0; what <= 6; what++) {
            all.append(x.status(what)).append(';');
        }
        numbers(all, x);
        for (int i = 0; i < x.status(6); i++) {
            all.append(x.trace(i)).append(',');
        }
        return all.append(faultMayChange ? 0 : x.fault()).toString();
    }

    private static void numbers(StringBuilder all, FourAskOne x) {
        for (int n = 0; n < x.status(0); n++) {
            for (int what = 0; what < 6; what++) {
                all.append(x.comerOf(n, what));
            }
        }
        for (int n = 0; n < x.status(1); n++) {
            for (int what = 0; what <= 3; what++) {
                all.append(x.askerOf(n, what));
            }
        }
        for (int n = 0; n < x.status(2); n++) {
            all.append(x.wayOf(n, 0)).append(x.wayOf(n, 1));
        }
    }

    // one refused call, beside the same house without it

    private static void refused(String what, int refusal, long answer, Call call) {
        FourAskOne without = house();
        FourAskOne with = house();
        String name = what + (full ? ", in a full house" : "");
        Checks.due(name, call.on(with), answer);
        for (int number = 1; number <= 7; number++) {
            int more = number == refusal ? 1 : 0;
            Checks.due(name + ", REFUSALS " + number, with.status(10 + number), without.status(10 + number) + more);
        }
        Checks.same(name, seen(with), seen(without));
        with.restore();
        without.restore();
        Checks.same(name + ", THE IMAGE", seen(with), seen(without));
    }

    private static void refused(String what, int refusal, Call call) {
        refused(what, refusal, -refusal, call);
    }

    private static void refusedFar(String what, int refusal, Call call) {
        refused(what, refusal, -1000 - refusal, call);
    }

    private static int[] noComer() {
        return new int[] {-1, full ? 8 : 3, LEAST, MOST};
    }

    private static int[] noAsker() {
        return new int[] {-1, full ? 4 : 2, LEAST, MOST};
    }

    private static int[] noWay() {
        return new int[] {-1, full ? 8 : 3, LEAST, MOST};
    }

    private static int[] outOf(int least, int most) {
        return new int[] {least - 1, most + 1, LEAST, MOST};
    }

    // the promises

    private static void promise2() {
        for (int s : NO_SHELF) {
            refused("row of SHELF " + s, NOBODY, x -> x.row(s, 0, 1));
            refused("row of SHELF " + s + ", size, SORT", NOBODY, x -> x.row(s, 4, -1));
        }
        for (int n : BELOW_0) {
            refused("row of size " + n, BELOW, x -> x.row(THREE_BYTES, 0, n));
            refused("row of size " + n + ", SORT", BELOW, x -> x.row(THREE_BYTES, 4, n));
        }
        for (int sort : outOf(0, 3)) {
            refused("row of SORT " + sort, WRONG, x -> x.row(THREE_BYTES, sort, 1));
            refused("row of SORT " + sort + ", size", WRONG, x -> x.row(HOLDS_NOTHING, sort, 161));
        }
        for (int n : new int[] {161, MOST}) {
            refused("row of size " + n, ROOM, x -> x.row(THREE_BYTES, 0, n));
            refused("row of size " + n, ROOM, x -> x.row(A_WAY, 3, n));
        }
    }

    private static void promise3() {
        for (int s : NO_SHELF) {
            refused("set of SHELF " + s, NOBODY, x -> x.set(s, 0, 1));
        }
        for (int i : new int[] {-1, 0, LEAST, MOST}) {
            refused("set of a WAY", OTHER, x -> x.set(A_WAY, i, 1));
            refused("set of NOTHING", NOTHING, x -> x.set(HOLDS_NOTHING, i, 1));
            refused("set of an empty ROW", BEYOND, x -> x.set(EMPTY_ROW, i, 1));
        }
        for (int i : outOf(0, 2)) {
            refused("set of element " + i, BEYOND, x -> x.set(THREE_BYTES, i, 1));
        }
    }

    private static void promise4() {
        for (int s : NO_SHELF) {
            refused("copy from SHELF " + s, NOBODY, x -> x.copy(s, A_WAY, 0, 0, 1));
            refused("copy to SHELF " + s, NOBODY, x -> x.copy(HOLDS_NOTHING, s, 0, 0, -1));
        }
        int[] others = {THREE_BYTES, A_WAY, HOLDS_NOTHING};
        for (int s : others) {
            refused("copy from a WAY to " + s, OTHER, x -> x.copy(A_WAY, s, -1, -1, -1));
            refused("copy to a WAY from " + s, OTHER, x -> x.copy(s, A_WAY, -1, -1, -1));
        }
        refused("copy of two SORTS", OTHER, x -> x.copy(THREE_BYTES, SEVEN_LONGS, -1, -1, -1));
        refused("copy of two SORTS", OTHER, x -> x.copy(SEVEN_LONGS, EMPTY_ROW, 0, 0, 0));
        for (int s : new int[] {THREE_BYTES, SEVEN_LONGS, HOLDS_NOTHING}) {
            refused("copy from NOTHING", NOTHING, x -> x.copy(HOLDS_NOTHING, s, -1, -1, -1));
            refused("copy to NOTHING", NOTHING, x -> x.copy(s, HOLDS_NOTHING, -1, -1, -1));
        }
        for (int n : BELOW_0) {
            refused("copy of " + n, BELOW, x -> x.copy(THREE_BYTES, TWO_BYTES, -1, -1, n));
        }
        for (int at : BELOW_0) {
            refused("copy from " + at, BEYOND, x -> x.copy(THREE_BYTES, TWO_BYTES, at, 0, 1));
            refused("copy to " + at, BEYOND, x -> x.copy(THREE_BYTES, TWO_BYTES, 0, at, 1));
            refused("copy of none from " + at, BEYOND, x -> x.copy(THREE_BYTES, TWO_BYTES, at, 0, 0));
            refused("copy of none to " + at, BEYOND, x -> x.copy(THREE_BYTES, TWO_BYTES, 0, at, 0));
        }
        copyEnds();
    }

    private static void copyEnds() {
        int[][] ends = {{3, 0, 1}, {2, 0, 2}, {0, 2, 1}, {0, 1, 2}, {0, 0, 3}, {4, 0, 0}, {0, 3, 0}, {MOST, 0, 1},
            {0, MOST, 1}, {MOST, 0, 0}, {0, MOST, 0}, {0, 0, MOST}, {1, 1, MOST}, {MOST, MOST, MOST}};
        for (int[] e : ends) {
            refused("copy from " + e[0] + " to " + e[1] + " of " + e[2], BEYOND,
                x -> x.copy(THREE_BYTES, TWO_BYTES, e[0], e[1], e[2]));
        }
        refused("copy on itself", BEYOND, x -> x.copy(THREE_BYTES, THREE_BYTES, 0, 1, 3));
        refused("copy of an empty ROW", BEYOND, x -> x.copy(EMPTY_ROW, EMPTY_ROW, 0, 0, 1));
    }

    private static void promises6And8() {
        for (int s : NO_SHELF) {
            refused("show in SHELF " + s, NOBODY, x -> x.show(s, 0));
            refused("show of NOTHING in SHELF " + s, NOBODY, x -> x.show(s, -1));
            refused("says of SHELF " + s, NOBODY, x -> x.says(s, 0));
        }
        for (int way : new int[] {-2, full ? 8 : 3, LEAST, MOST}) {
            refused("show of WAY " + way, NOBODY, x -> x.show(HOLDS_NOTHING, way));
            refused("show of WAY " + way, NOBODY, x -> x.show(THREE_BYTES, way));
            refused("show of WAY " + way, NOBODY, x -> x.show(A_WAY, way));
        }
        for (int kind : NO_KIND) {
            refused("says of KIND " + kind, NOBODY, x -> x.says(A_WAY, kind));
            refused("says of KIND " + kind + " and a ROW", NOBODY, x -> x.says(THREE_BYTES, kind));
            refused("says of KIND " + kind + " and NOTHING", NOBODY, x -> x.says(HOLDS_NOTHING, kind));
        }
        for (int kind = 0; kind < 7; kind++) {
            int as = kind;
            refused("says of a ROW as " + kind, OTHER, x -> x.says(THREE_BYTES, as));
            refused("says of NOTHING as " + kind, NOTHING, x -> x.says(HOLDS_NOTHING, as));
            if (kind > 2) {
                // the WAY there is LINED
                refused("says of another KIND, " + kind, OTHER, x -> x.says(A_WAY, as));
            }
        }
    }

    private static void promises9To11() {
        for (int s : NO_SHELF) {
            refused("comer of SHELF " + s, NOBODY, x -> x.comer(s, -1));
        }
        refused("comer of a WAY", OTHER, x -> x.comer(A_WAY, -1));
        refused("comer of NOTHING", NOTHING, x -> x.comer(HOLDS_NOTHING, -1));
        for (int i : outOf(0, 1)) {
            refused("comer at " + i, BEYOND, x -> x.comer(SEVEN_LONGS, i));
        }
        refused("comer of three elements", BEYOND, x -> x.comer(THREE_BYTES, 0));
        refused("comer of none", BEYOND, x -> x.comer(EMPTY_ROW, 0));
        refused("comer of SCHOOL 9 and MARKS 10", WRONG, x -> x.comer(SEVEN_LONGS, 1));
        for (int v : outOf(0, 3)) {
            refused("asker of SCHOOL " + v, WRONG, x -> x.asker(v, 1, 1));
        }
        for (int v : outOf(0, 9)) {
            refused("asker of LIKE " + v, WRONG, x -> x.asker(1, v, 1));
        }
        for (int v : outOf(0, 10)) {
            refused("asker of DRAWN " + v, WRONG, x -> x.asker(1, 1, v));
        }
        for (int v : outOf(0, 99)) {
            refused("way of a " + v, WRONG, x -> x.way(6, v));
        }
        for (int kind : NO_KIND) {
            refused("way of KIND " + kind, NOBODY, x -> x.way(kind, 1));
            refused("way of KIND " + kind + " and a", NOBODY, x -> x.way(kind, 100));
        }
    }

    private static void promises12To14() {
        for (int n : noComer()) {
            refused("comerOf " + n, BEYOND, x -> x.comerOf(n, 0));
        }
        for (int what : outOf(0, 6)) {
            refused("comerOf number " + what, BEYOND, x -> x.comerOf(0, what));
            refused("comerOf the last, number " + what, BEYOND, x -> x.comerOf(x.status(0) - 1, what));
        }
        for (int n : noAsker()) {
            refused("askerOf " + n, BEYOND, x -> x.askerOf(n, 0));
            refused("askerOf " + n + ", place", BEYOND, x -> x.askerOf(n, 3));
        }
        for (int what : outOf(0, 3)) {
            refused("askerOf number " + what, BEYOND, x -> x.askerOf(0, what));
            refused("askerOf the last, number " + what, BEYOND, x -> x.askerOf(x.status(1) - 1, what));
        }
        for (int n : noWay()) {
            refused("wayOf " + n, BEYOND, x -> x.wayOf(n, 0));
        }
        for (int what : outOf(0, 1)) {
            refused("wayOf number " + what, BEYOND, x -> x.wayOf(0, what));
        }
    }

    private static void promises15To17() {
        for (int n : noComer()) {
            refused("change of " + n, NOBODY, x -> x.change(n, 0, 1));
            refused("change of " + n + ", number, v", NOBODY, x -> x.change(n, 6, 10));
        }
        for (int what : outOf(0, 5)) {
            refused("change of number " + what, BEYOND, x -> x.change(0, what, 1));
            refused("change of number " + what + ", v", BEYOND, x -> x.change(0, what, 10));
        }
        for (int what = 0; what < 6; what++) {
            int number = what;
            for (int v : outOf(0, what == 4 ? 3 : 9)) {
                refused("change of number " + what + " to " + v, WRONG, x -> x.change(1, number, v));
            }
        }
        for (int n : noAsker()) {
            refused("drawn of " + n, NOBODY, x -> x.drawn(n, 1));
            refused("drawn of " + n + ", v", NOBODY, x -> x.drawn(n, 11));
            refused("chief " + n, NOBODY, x -> x.chief(n));
        }
        for (int v : outOf(0, 10)) {
            refused("drawn to " + v, WRONG, x -> x.drawn(1, v));
        }
    }

    private static void promise18() {
        for (int s : NO_SHELF) {
            refused("house of SHELF " + s, NOBODY, x -> x.house(s));
        }
        refused("house of a WAY", OTHER, x -> x.house(A_WAY));
        refused("house of NOTHING", NOTHING, x -> x.house(HOLDS_NOTHING));
        faultMayChange = true;
        refused("house with a FAULT", WRONG, x -> x.house(WRONG_TEXT));
        refused("house of no text", WRONG, x -> x.house(SEVEN_LONGS));
        refused("house of no elements", WRONG, x -> x.house(EMPTY_ROW));
        faultMayChange = false;
    }

    private static void promises20To22() {
        for (int way : noWay()) {
            refused("shows by " + way, NOBODY, x -> x.shows(way, 0, 0));
            refused("said by " + way, NOBODY, x -> x.said(way, true, 0, 0));
            refused("total by " + way, NOBODY, x -> x.total(way, false, 0));
        }
        for (int n : noAsker()) {
            refused("shows to " + n, NOBODY, x -> x.shows(0, n, 0));
            refused("said by slips by asker " + n, NOBODY, x -> x.said(0, true, n, 0));
            refused("said in ORDER by asker " + n, NOBODY, x -> x.said(0, false, n, 0));
        }
        for (int n : noComer()) {
            refused("shows of " + n, NOBODY, x -> x.shows(0, 0, n));
            refused("said of " + n, NOBODY, x -> x.said(0, false, 0, n));
            refused("total by slips of " + n, NOBODY, x -> x.total(0, true, n));
            refused("total in ORDER of " + n, NOBODY, x -> x.total(0, false, n));
            refused("nobody at all", NOBODY, x -> x.shows(n, n, n));
        }
    }

    private static void promises23To26() {
        for (int way : noWay()) {
            refused("taken by slips by " + way, NOBODY, -11, x -> x.taken(way, true));
            refused("taken in ORDER by " + way, NOBODY, -11, x -> x.taken(way, false));
            refusedFar("tells by slips by " + way, NOBODY, x -> x.tells(way, true));
            refusedFar("tells in ORDER by " + way, NOBODY, x -> x.tells(way, false));
            refusedFar("righted by " + way, NOBODY, x -> x.righted(way, 2));
            refusedFar("righted by " + way + ", m", NOBODY, x -> x.righted(way, 1));
        }
        for (int m : outOf(2, 8)) {
            refusedFar("righted of " + m, WRONG, x -> x.righted(0, m));
        }
        refusedFar("righted of 0", WRONG, x -> x.righted(0, 0));
    }

    private static void promises28To31() {
        for (int way : noWay()) {
            refusedFar("joined of " + way, NOBODY, x -> x.joined(way, 0, 11));
            refusedFar("joined with " + way, NOBODY, x -> x.joined(0, way, -1));
            refusedFar("joined of both " + way, NOBODY, x -> x.joined(way, way, 5));
            refused("weights of " + way, NOBODY, x -> x.weights(way, 0));
            refused("weights with " + way, NOBODY, x -> x.weights(0, way));
            refused("agree by " + way, NOBODY, x -> x.agree(way));
        }
        for (int tenths : outOf(0, 10)) {
            refusedFar("joined with " + tenths, WRONG, x -> x.joined(0, 1, tenths));
        }
        for (int n : noAsker()) {
            refused("heads of " + n, NOBODY, x -> x.heads(n));
        }
    }

    private static void promises32To34() {
        for (int way : noWay()) {
            refused("wrong by slips by " + way, NOBODY, x -> x.wrong(way, true));
            refused("wrong in ORDER by " + way, NOBODY, x -> x.wrong(way, false));
            for (int k : new int[] {1, 0, 9}) {
                refused("lost by " + way + ", " + k, NOBODY, x -> x.lost(way, k));
            }
            refused("turned by " + way, NOBODY, x -> x.turned(way));
        }
        for (int k : new int[] {full ? 9 : 4, 9, MOST}) {
            refused("lost among " + k, BEYOND, x -> x.lost(0, k));
        }
        for (int k : new int[] {0, -1, LEAST}) {
            refused("lost among " + k, WRONG, x -> x.lost(0, k));
        }
    }

    private static void promises36To40() {
        for (int n : outOf(1, 8)) {
            refused("comes of n " + n, WRONG, x -> x.comes(n, 0));
            refused("lets of n " + n, WRONG, x -> x.lets(n));
            refused("come of n " + n, WRONG, x -> x.come(n));
        }
        for (int n = 1; n <= 8; n++) {
            int all = n;
            for (int r : outOf(0, n - 1)) {
                refused("comes of n " + n + " and r " + r, WRONG, x -> x.comes(all, r));
            }
        }
        for (int s : NO_SHELF) {
            refused("judge of SHELF " + s, NOBODY, x -> x.judge(s));
            refusedFar("told of SHELF " + s, NOBODY, x -> x.told(s));
        }
        refused("judge of a WAY", OTHER, x -> x.judge(A_WAY));
        refusedFar("told of a WAY", OTHER, x -> x.told(A_WAY));
        refused("judge of NOTHING", NOTHING, x -> x.judge(HOLDS_NOTHING));
        refusedFar("told of NOTHING", NOTHING, x -> x.told(HOLDS_NOTHING));
        refusedFar("told of what may not be", WRONG, x -> x.told(SEVEN_LONGS));
        refusedFar("told of no elements", WRONG, x -> x.told(EMPTY_ROW));
    }

    private static void noRoom() {
        full = true;
        refused("comer without room", ROOM, x -> x.comer(SEVEN_LONGS, 0));
        refused("asker without room", ROOM, x -> x.asker(3, 9, 10));
        refused("way without room", ROOM, x -> x.way(6, 99));
    }

    private static void refusedOn(FourAskOne x, String what, int refusal, long answer) {
        Checks.due(what, answer, -refusal);
        for (int number = 1; number <= 7; number++) {
            Checks.due(what + ", REFUSALS " + number, x.status(10 + number), number == refusal ? 1 : 0);
        }
    }

    private static FourAskOne withoutComers() {
        FourAskOne x = new FourAskOne();
        x.way(0, 0);
        x.asker(0, 0, 0);
        return x;
    }

    private static void noComers() {
        FourAskOne x = withoutComers();
        refusedOn(x, "best", BEYOND, x.best());
        x = withoutComers();
        refusedOn(x, "agree", BEYOND, x.agree(0));
        x = withoutComers();
        refusedOn(x, "agree without the WAY", NOBODY, x.agree(1));
        x = withoutComers();
        refusedOn(x, "wrong by slips", BEYOND, x.wrong(0, true));
        x = withoutComers();
        refusedOn(x, "wrong in ORDER", BEYOND, x.wrong(0, false));
        x = withoutComers();
        refusedOn(x, "wrong without the WAY", NOBODY, x.wrong(1, true));
        x = withoutComers();
        refusedOn(x, "lost among 1", BEYOND, x.lost(0, 1));
        x = withoutComers();
        refusedOn(x, "lost among 0", WRONG, x.lost(0, 0));
    }

    private static void noWays() {
        FourAskOne x = new FourAskOne();
        x.come(8);
        refusedOn(x, "head", BEYOND, x.head());
    }

    private static void noImage() {
        FourAskOne x = Checks.smallHouse();
        refusedOn(x, "restore", WRONG, x.restore());
        Checks.due("ways as they were", x.status(2), 7);
    }

    /** Of these the document names no REFUSAL: whatever they are asked, none is counted. */
    private static void nothingIsRefused() {
        FourAskOne x = withoutComers();
        for (int v : new int[] {-1, 0, 1, 8, LEAST, MOST}) {
            x.element(v, 0);
            x.element(0, v);
            x.holds(v);
            x.seed(v);
            x.act(v, 0, v);
            x.act(0, v, v);
            x.trace(v);
            x.status(v);
        }
        x.fault();
        x.head();
        x.piece();
        x.clear();
        x.image();
        x.restore();
        x.taken(0, true);
        x.tells(0, true);
        x.turned(0);
        Checks.refused(x, 0, 0, 0, 0, 0, 0, 0);
    }
}
