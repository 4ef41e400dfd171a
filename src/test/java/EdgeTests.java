/** The words of each promise that name a boundary case: a test of its own for each. Refused calls: RefusalTests. */
public final class EdgeTests {
    private static final int NONE = FourAskOne.NONE;
    private static final int LEAST = Integer.MIN_VALUE;
    private static final int MOST = Integer.MAX_VALUE;

    public static void main(String[] args) {
        promise1();
        promise2();
        promise3();
        promise4Ahead();
        promise4Sorts();
        promise4Ends();
        promise5();
        promise6();
        promise7();
        promise8Kinds();
        promise8Letters();
        promise8Marks();
        promise8Names();
        promise9();
        promises10And11();
        promises12To14();
        promises15And16();
        promise17();
        promise18();
        promise19();
        promises20To22();
        promise23();
        promise24();
        promise25();
        promise26();
        promise27();
        bySlips();
        promises28And29();
        promise30();
        promise31();
        promise32();
        promise33();
        promise34();
        promise35();
        promises36And37();
        fullHouse();
        fullHouseSays();
        promise38();
        promise39();
        promise40();
        promise41();
        promise42();
        promise43();
        promise44();
        promise45();
        promise46None();
        promise46All();
        promise46Shelves();
        promise47();
        promise47Refusals();
        for (int number = 1; number <= 47; number++) {
            Checks.due("promise " + number + " has a test", Checks.hasPromise(number) ? 1 : 0, 1);
        }
        Checks.end();
    }

    private static void due(String what, long got, long want) {
        Checks.due(what, got, want);
    }

    private static void says(int promise, String words) {
        Checks.promise(promise, words);
    }

    /** A house of n COMERS by draws, n ASKERS of all SCHOOLS (four at most) and a WAY of each KIND. */
    private static FourAskOne houseOf(int n) {
        FourAskOne x = new FourAskOne();
        if (n > 0) {
            x.come(n);
        }
        for (int asker = 0; asker < n && asker < 4; asker++) {
            x.asker(asker, 9 - asker, 5);
        }
        for (int kind = 0; kind < 7; kind++) {
            x.way(kind, 13);
        }
        return x;
    }

    private static void promise1() {
        says(1, "No COMERS, no ASKERS, no WAYS.");
        FourAskOne x = new FourAskOne();
        due("COMERS", x.status(0), 0);
        due("ASKERS", x.status(1), 0);
        due("WAYS", x.status(2), 0);
        due("COMER 0", x.comerOf(0, 0), -5);
        due("ASKER 0", x.askerOf(0, 0), -5);
        due("WAY 0", x.wayOf(0, 0), -5);
        due("COMERS that go", x.clear(), 0);
        due("BEST", x.best(), -5);
        due("WAYS in THE IMAGE", x.image(), 0);
    }

    private static void promise2() {
        says(2, "-6 SORT; -7 n above 160.");
        FourAskOne x = new FourAskOne();
        int[][] rows = {{0, 0, 0, 1}, {7, 3, 160, 1}, {0, 0, 161, -7}, {0, 4, 161, -6}, {0, -1, 0, -6}, {0, 3, -1, -4}};
        for (int[] r : rows) {
            due("row " + r[0] + ", " + r[1] + ", " + r[2], x.row(r[0], r[1], r[2]), r[3]);
        }
        says(2, "SHELF s holds a new ROW: 1.");
        x.set(7, 159, 4);
        due("anew", x.row(7, 3, 160), 1);
        due("all 0 again", x.element(7, 159), 0);
        due("in place of a ROW of another SORT", x.row(7, 0, 1), 1);
        due("its SORT", x.holds(7), 100);
        due("its end", x.set(7, 1, 0), -5);
        x.way(0, 0);
        x.show(7, 0);
        due("in place of a WAY", x.row(7, 1, 1), 1);
        due("its SORT", x.holds(7), 101);
        due("no WAY any more", x.copy(7, 7, 0, 0, 1), 1);
    }

    private static void promise3() {
        says(3, "Element i of the ROW becomes v: 1. -1; -2; -3; -5.");
        FourAskOne x = new FourAskOne();
        x.row(0, 3, 3);
        due("below the first", x.set(0, -1, 7), -5);
        due("the first", x.set(0, 0, Long.MIN_VALUE), 1);
        due("the last", x.set(0, 2, Long.MAX_VALUE), 1);
        due("behind the last", x.set(0, 3, 7), -5);
        due("the first", x.element(0, 0), Long.MIN_VALUE);
        due("another", x.element(0, 1), 0);
        due("the last", x.element(0, 2), Long.MAX_VALUE);
        x.row(0, 3, 0);
        due("of an empty ROW", x.set(0, 0, 7), -5);
    }

    private static void rowIs(FourAskOne x, int s, long... values) {
        for (int i = 0; i < values.length; i++) {
            due("element " + i, x.element(s, i), values[i]);
        }
    }

    private static void promise4Ahead() {
        says(4, "come to elements j, j + 1, .. of that in q (as they were ahead): 1.");
        FourAskOne x = new FourAskOne();
        Checks.row(x, 0, 0, 1, 2, 3, 4, 5);
        due("forward on itself", x.copy(0, 0, 0, 2, 3), 1);
        rowIs(x, 0, 1, 2, 1, 2, 3);
        due("back on itself", x.copy(0, 0, 1, 0, 4), 1);
        rowIs(x, 0, 2, 1, 2, 3, 3);
        due("to the same places", x.copy(0, 0, 0, 0, 5), 1);
        rowIs(x, 0, 2, 1, 2, 3, 3);
    }

    private static void promise4Sorts() {
        says(4, "-2 also of two SORTS (when both hold something); -3 either");
        FourAskOne x = new FourAskOne();
        x.way(0, 0);
        x.row(0, 0, 1);
        x.row(1, 1, 1);
        x.show(2, 0);
        due("two SORTS", x.copy(0, 1, 0, 0, 0), -2);
        due("two SORTS", x.copy(1, 0, 0, 0, 0), -2);
        due("a ROW and NOTHING", x.copy(1, 3, 0, 0, 0), -3);
        due("NOTHING and a ROW", x.copy(3, 1, 0, 0, 0), -3);
        due("NOTHING twice", x.copy(3, 4, 0, 0, 0), -3);
        due("NOTHING and a WAY", x.copy(3, 2, 0, 0, 0), -2);
        due("a WAY and NOTHING", x.copy(2, 3, 0, 0, 0), -2);
        due("one SORT", x.copy(1, 1, 0, 0, 0), 1);
    }

    private static void promise4Ends() {
        says(4, "-4 n; -5 i or j below 0, or an end that isn't there.");
        FourAskOne x = new FourAskOne();
        Checks.row(x, 0, 2, 1, 2, 3);
        Checks.row(x, 1, 2, 7, 8);
        int[][] calls = {{0, 0, -1, -4}, {-1, 0, 1, -5}, {0, -1, 1, -5}, {-1, 0, 0, -5}, {0, -1, 0, -5}, {3, 2, 0, 1},
            {4, 2, 0, -5}, {3, 3, 0, -5}, {2, 1, 1, 1}, {3, 0, 1, -5}, {0, 2, 1, -5}, {1, 0, 2, 1}, {2, 0, 2, -5},
            {0, 1, 2, -5}, {0, 0, 3, -5}, {MOST, 0, 1, -5}, {0, MOST, 1, -5}, {2, 1, MOST, -5}, {0, 0, LEAST, -4}};
        for (int[] c : calls) {
            due("from " + c[0] + " to " + c[1] + " of " + c[2], x.copy(0, 1, c[0], c[1], c[2]), c[3]);
        }
        rowIs(x, 1, 2, 3);
        x.row(2, 2, 160);
        x.row(3, 2, 160);
        x.set(2, 159, 5);
        due("a full ROW", x.copy(2, 3, 0, 0, 160), 1);
        due("its last", x.element(3, 159), 5);
        due("one more", x.copy(2, 3, 0, 0, 161), -5);
    }

    private static void promise5() {
        says(5, "Element i of the ROW; 0 if there is none (nothing is refused).");
        FourAskOne x = new FourAskOne();
        x.way(6, 99);
        Checks.row(x, 0, 3, 5, 6);
        x.show(1, 0);
        long[][] asked = {{0, 0, 5}, {0, 1, 6}, {0, 2, 0}, {0, -1, 0}, {0, MOST, 0}, {0, LEAST, 0}, {1, 0, 0},
            {2, 0, 0}, {8, 0, 0}, {-1, 0, 0}, {MOST, MOST, 0}, {LEAST, LEAST, 0}};
        for (long[] a : asked) {
            due("element " + a[1] + " of " + a[0], x.element((int) a[0], (int) a[1]), a[2]);
        }
        Checks.refused(x, 0, 0, 0, 0, 0, 0, 0);
        x.row(0, 3, 1);
        due("of a less ROW than before", x.element(0, 1), 0);
        x.set(0, 0, 7);
        x.show(0, 0);
        due("of a WAY where a ROW was", x.element(0, 0), 0);
    }

    private static void promise6() {
        says(6, "SHELF s holds a WAY, or NOTHING (way NONE): 1, 0. -1.");
        FourAskOne x = new FourAskOne();
        due("NOTHING where NOTHING is", x.show(0, NONE), 0);
        due("WAY 0 of none", x.show(0, 0), -1);
        for (int way = 0; way < 8; way++) {
            x.way(0, way);
        }
        due("the first", x.show(0, 0), 1);
        due("the last", x.show(7, 7), 1);
        due("the last", x.holds(7), 7);
        due("behind the last", x.show(7, 8), -1);
        due("below NONE", x.show(7, -2), -1);
        due("NOTHING", x.show(7, NONE), 0);
        due("NOTHING", x.holds(7), NONE);
        x.row(1, 0, 1);
        due("NOTHING where a ROW is", x.show(1, NONE), 0);
        due("NOTHING", x.set(1, 0, 1), -3);
    }

    private static void promise7() {
        says(7, "NONE NOTHING, or no such SHELF; a WAY's number; 100 and the SORT of a ROW.");
        FourAskOne x = new FourAskOne();
        for (int s : new int[] {0, 7, -1, 8, LEAST, MOST}) {
            due("SHELF " + s, x.holds(s), NONE);
        }
        x.way(0, 0);
        x.show(7, 0);
        due("a WAY", x.holds(7), 0);
        x.row(7, 0, 0);
        due("an empty ROW of bytes", x.holds(7), 100);
        x.row(7, 3, 160);
        due("a full ROW of longs", x.holds(7), 103);
        Checks.refused(x, 0, 0, 0, 0, 0, 0, 0);
    }

    private static void promise8Kinds() {
        says(8, "WAY its a; TALKED, LINED how many tenths of it are first feeling; WORKED its LINE");
        int[][] ways = {{0, 0, 0, 0}, {0, 99, 0, 99}, {1, 0, 1, 0}, {1, 10, 1, 10}, {1, 11, 1, 0}, {1, 99, 1, 0},
            {2, 1, 2, 0}, {2, 10, 2, 5}, {2, 10, 1, 5}, {2, 11, 1, 0}, {2, 9, 2, 4}, {3, 0, 3, 0}, {3, 2, 3, 2},
            {3, 3, 3, 0}, {3, 98, 3, 2}, {3, 99, 3, 0}};
        for (int[] w : ways) {
            FourAskOne x = new FourAskOne();
            x.way(w[0], w[1]);
            x.show(7, 0);
            due("KIND " + w[0] + ", a " + w[1] + ", as " + w[2], x.says(7, w[2]), w[3]);
        }
        says(8, "-1 SHELF, KIND; -2 also a WAY of another KIND; -3.");
        FourAskOne x = new FourAskOne();
        x.way(1, 5);
        x.show(0, 0);
        due("under it, not above", x.says(0, 2), -2);
        due("KIND 6", x.says(0, 6), -2);
        due("KIND 7", x.says(0, 7), -1);
        due("KIND below 0", x.says(0, -1), -1);
    }

    private static void promise8Letters() {
        says(8, "LETTERED of how many COMERS the letters are less than 270");
        FourAskOne x = new FourAskOne();
        x.way(4, 12);
        x.show(0, 0);
        due("no COMERS", x.says(0, 4), 0);
        Checks.comer(x, 9, 2, 1, 0, 0, 0);
        due("SUM 12", x.says(0, 4), 0);
        Checks.comer(x, 9, 2, 0, 0, 0, 0);
        due("SUM 11 too", x.says(0, 4), 1);
        for (int n = 0; n < 6; n++) {
            Checks.comer(x, 0, 0, 0, 0, 0, 0);
        }
        due("seven of eight", x.says(0, 4), 7);
        x.change(0, 0, 0);
        due("all eight", x.says(0, 4), 8);
        x.way(4, 0);
        x.show(0, 1);
        due("a 0", x.says(0, 4), 0);
    }

    private static void promise8Marks() {
        says(8, "MARKED the COMER of the greatest MARKS, of several the first (NONE: no COMERS)");
        FourAskOne x = new FourAskOne();
        x.way(5, 0);
        x.show(0, 0);
        due("no COMERS", x.says(0, 5), NONE);
        for (int n = 0; n < 8; n++) {
            Checks.comer(x, 9, 9, 9, 9, 0, 0);
        }
        due("all 0", x.says(0, 5), 0);
        x.change(7, 5, 1);
        due("the last", x.says(0, 5), 7);
        x.change(3, 5, 1);
        due("of two the first", x.says(0, 5), 3);
        Checks.refused(x, 0, 0, 0, 0, 0, 0, 0);
    }

    private static void promise8Names() {
        says(8, "BLIND 1, if with names on another COMER had the greatest TOTAL by SLIPS, else 0");
        FourAskOne x = new FourAskOne();
        x.way(6, 0);
        x.show(0, 0);
        due("no COMERS", x.says(0, 6), 0);
        Checks.comer(x, 0, 0, 0, 0, 0, 3);
        due("one COMER", x.says(0, 6), 0);
        Checks.comer(x, 0, 0, 0, 0, 1, 2);
        due("no ASKERS", x.says(0, 6), 0);
        x.asker(1, 4, 0);
        due("90, and 60 with a BONUS of 40", x.says(0, 6), 1);
        x.asker(1, 2, 10);
        due("180, and 120 with BONUSES of 60 by slips: the first as before", x.says(0, 6), 0);
        x.asker(1, 4, 10);
        due("270, and 180 with BONUSES of 100 by slips", x.says(0, 6), 1);
        x.change(1, 4, 2);
        due("nobody likes them", x.says(0, 6), 0);
    }

    private static void promise9() {
        says(9, "A COMER by elements i to i + 5 of the ROW in SHELF s (as the ITEM): the number.");
        FourAskOne x = new FourAskOne();
        Checks.row(x, 0, 1, 9, 0, 1, 2, 3, 0, 4, 9);
        due("at the first", x.comer(0, 0), 0);
        due("at the last six", x.comer(0, 2), -6);
        x.set(0, 6, 3);
        due("at the last six", x.comer(0, 2), 1);
        due("one behind", x.comer(0, 3), -5);
        due("one ahead", x.comer(0, -1), -5);
        due("its LINE 0", x.comerOf(1, 0), 1);
        due("its MARKS", x.comerOf(1, 5), 9);
        x.row(1, 1, 6);
        due("six elements, all 0", x.comer(1, 0), 2);
        x.row(1, 1, 5);
        due("five elements", x.comer(1, 0), -5);
        x.row(1, 1, 160);
        due("the last six of a full ROW", x.comer(1, 154), 3);
        due("one behind", x.comer(1, 155), -5);
    }

    private static void promises10And11() {
        says(10, "An ASKER: the number. -6; -7.");
        FourAskOne x = new FourAskOne();
        due("the least", x.asker(0, 0, 0), 0);
        due("the most", x.asker(3, 9, 10), 1);
        due("SCHOOL 4", x.asker(4, 9, 10), -6);
        due("LIKE 10", x.asker(3, 10, 10), -6);
        due("DRAWN 11", x.asker(3, 9, 11), -6);
        due("after those", x.asker(0, 0, 0), 2);
        due("the last", x.asker(0, 0, 0), 3);
        due("no room", x.asker(0, 0, 0), -7);
        due("no room, and SCHOOL", x.asker(-1, 0, 0), -6);
        says(11, "A WAY: the number. -1 KIND; -6 a; -7.");
        for (int n = 0; n < 8; n++) {
            due("a " + n, x.way(6 - n % 7, n * 14), n);
        }
        due("no room", x.way(0, 0), -7);
        due("no room, and a", x.way(0, 100), -6);
        due("no room, and KIND", x.way(7, 100), -1);
    }

    private static void promises12To14() {
        FourAskOne x = houseOf(8);
        says(12, "0 to 2 LINES, 3 LOOKS, 4 SCHOOL, 5 MARKS, 6 SUM. -5: no such one, another what.");
        due("no such one", x.comerOf(8, 0), -5);
        due("no such one", x.comerOf(-1, 6), -5);
        due("another what", x.comerOf(7, 7), -5);
        due("another what", x.comerOf(0, -1), -5);
        due("SUM of the last", x.comerOf(7, 6), x.comerOf(7, 0) + x.comerOf(7, 1) + x.comerOf(7, 2));
        x.clear();
        due("none now", x.comerOf(0, 0), -5);
        says(13, "0 SCHOOL, 1 LIKE, 2 DRAWN, 3 the place in ORDER. -5: no such one, another what.");
        due("no such one", x.askerOf(4, 3), -5);
        due("no such one", x.askerOf(-1, 0), -5);
        due("another what", x.askerOf(3, 4), -5);
        due("another what", x.askerOf(0, -1), -5);
        due("place of the last", x.askerOf(3, 3), 3);
        x.chief(3);
        due("place of the last, now first", x.askerOf(3, 3), 0);
        due("place of the one that was first", x.askerOf(0, 3), 1);
        says(14, "0 KIND, 1 a. -5: no such one, another what.");
        due("no such one", x.wayOf(7, 0), -5);
        due("no such one", x.wayOf(-1, 1), -5);
        due("another what", x.wayOf(6, 2), -5);
        due("another what", x.wayOf(0, -1), -5);
        due("KIND of the last", x.wayOf(6, 0), 6);
    }

    private static void promises15And16() {
        says(15, "becomes v: what it was. -1; -5 another number; -6.");
        FourAskOne x = new FourAskOne();
        Checks.comer(x, 0, 9, 5, 0, 3, 9);
        due("from 0 to the most", x.change(0, 0, 9), 0);
        due("from the most to 0", x.change(0, 1, 0), 9);
        due("to itself", x.change(0, 2, 5), 5);
        due("SCHOOL 4", x.change(0, 4, 4), -6);
        due("below 0", x.change(0, 5, -1), -6);
        due("10", x.change(0, 3, 10), -6);
        due("the SUM", x.change(0, 6, 1), -5);
        due("SUM now", x.comerOf(0, 6), 14);
        says(16, "DRAWN of an ASKER becomes v: what it was. -1; -6.");
        x.asker(1, 1, 0);
        due("to the most", x.drawn(0, 10), 0);
        due("above", x.drawn(0, 11), -6);
        due("below", x.drawn(0, -1), -6);
        due("to the least", x.drawn(0, 0), 10);
        due("another ASKER", x.drawn(1, 0), -1);
    }

    private static void promise17() {
        says(17, "An ASKER comes first in ORDER, the others as they were: the place it had. -1.");
        FourAskOne x = new FourAskOne();
        due("none there", x.chief(0), -1);
        x.asker(0, 0, 0);
        due("the only one", x.chief(0), 0);
        x.asker(0, 0, 0);
        x.asker(0, 0, 0);
        x.asker(0, 0, 0);
        due("the first", x.chief(0), 0);
        due("the last", x.chief(3), 3);
        int[] places = {1, 2, 3, 0};
        for (int asker = 0; asker < 4; asker++) {
            due("place of " + asker, x.askerOf(asker, 3), places[asker]);
        }
        due("the last now", x.chief(2), 3);
        int[] then = {2, 3, 0, 1};
        for (int asker = 0; asker < 4; asker++) {
            due("place of " + asker, x.askerOf(asker, 3), then[asker]);
        }
        due("a fifth", x.chief(4), -1);
    }

    private static void promise18() {
        says(18, "A HOUSE by the ROW in SHELF s: how many ITEMS. -1; -2; -3; -6 a FAULT.");
        FourAskOne x = new FourAskOne();
        Checks.letters(x, 0, "way 6 99");
        for (int n = 1; n <= 8; n++) {
            due("one ITEM", x.house(0), 1);
            due("WAYS", x.status(2), n);
        }
        due("no room", x.house(0), -6);
        due("its FAULT", x.fault(), 0);
        due("WAYS", x.status(2), 8);
        Checks.letters(x, 0, "comer 0 0 0 0 0 0;asker 0 0 0;chief 0;chief 0;chief 0");
        due("five ITEMS", x.house(0), 5);
        x.row(0, 0, 0);
        due("no elements", x.house(0), -6);
    }

    private static void promise19() {
        says(19, "The FAULT of the latest house() that came to a ROW; NONE: there was none, or none yet.");
        FourAskOne x = new FourAskOne();
        due("none yet", x.fault(), NONE);
        x.house(0);
        x.house(-1);
        due("none yet: NOTHING is no ROW", x.fault(), NONE);
        Checks.readFault(x, "way", 3);
        x.house(0);
        x.house(8);
        x.way(0, 0);
        x.show(0, 0);
        x.house(0);
        due("still that of the latest ROW", x.fault(), 3);
        Checks.readFault(x, "", 0);
        Checks.read(x, "way 0 0", 1);
        due("there was none", x.fault(), NONE);
    }

    private static void promises20To22() {
        FourAskOne x = houseOf(8);
        says(20, "What a WAY SHOWS an ASKER of a COMER. -1.");
        due("the last of all", x.shows(6, 3, 7), 30 * x.comerOf(7, 5));
        due("WAY behind the last", x.shows(7, 3, 7), -1);
        due("ASKER behind the last", x.shows(6, 4, 7), -1);
        due("COMER behind the last", x.shows(6, 3, 8), -1);
        says(21, "What an ASKER SAID of a COMER by a WAY, by SLIPS or in ORDER. -1.");
        due("the last of all by slips", x.said(6, true, 3, 7), 30 * x.comerOf(7, 5));
        due("the last of all in ORDER", x.said(6, false, 3, 7), 30 * x.comerOf(7, 5));
        due("WAY behind the last", x.said(7, true, 3, 7), -1);
        due("ASKER behind the last", x.said(6, true, 4, 7), -1);
        due("COMER behind the last", x.said(6, false, 3, 8), -1);
        says(22, "TOTAL. -1.");
        due("the last of all", x.total(6, true, 7), 120 * x.comerOf(7, 5));
        due("WAY behind the last", x.total(7, true, 7), -1);
        due("COMER behind the last", x.total(6, false, 8), -1);
    }

    private static void promise23() {
        says(23, "TAKEN; NONE: no COMERS. -11 WAY (counted as -1).");
        FourAskOne x = houseOf(0);
        due("no COMERS", x.taken(0, true), NONE);
        due("no COMERS", x.taken(6, false), NONE);
        Checks.refused(x, 0, 0, 0, 0, 0, 0, 0);
        due("no such WAY", x.taken(7, true), -11);
        due("no such WAY", x.taken(-1, false), -11);
        Checks.refused(x, 2, 0, 0, 0, 0, 0, 0);
        x.come(1);
        due("one COMER", x.taken(0, true), 0);
    }

    private static void promise24() {
        says(24, "BEST. -5 no COMERS.");
        FourAskOne x = houseOf(0);
        due("no COMERS", x.best(), -5);
        x.come(1);
        due("one COMER", x.best(), 0);
        x.clear();
        due("none again", x.best(), -5);
        Checks.refused(x, 0, 0, 0, 0, 2, 0, 0);
    }

    private static void promise25() {
        says(25, "TELLS of a WAY (may be below 0). -1001 (counted as -1).");
        FourAskOne x = houseOf(0);
        Checks.comer(x, 1, 0, 0, 0, 0, 9);
        Checks.comer(x, 2, 0, 0, 0, 0, 0);
        x.asker(3, 0, 0);
        due("below 0, no REFUSAL", x.tells(6, true), -1);
        due("below 0, in ORDER", x.tells(6, false), -1);
        Checks.refused(x, 0, 0, 0, 0, 0, 0, 0);
        due("no such WAY", x.tells(7, true), -1001);
        Checks.refused(x, 1, 0, 0, 0, 0, 0, 0);
    }

    private static void promise26() {
        says(26, "-1001; -1006 m (counted as -1, -6). (Fewer COMERS than m: all.)");
        FourAskOne x = houseOf(0);
        due("no COMERS", x.righted(4, 2), 0);
        Checks.comer(x, 9, 9, 9, 0, 0, 0);
        due("one COMER", x.righted(4, 8), 0);
        x.asker(3, 0, 0);
        Checks.comer(x, 9, 3, 0, 0, 0, 0);
        Checks.comer(x, 9, 4, 0, 0, 0, 9);
        for (int m = 3; m <= 8; m++) {
            due("three COMERS, SUMS 27, 12, 13, letters of 13: m " + m, x.righted(4, m), 2);
        }
        due("the two of the greatest MARKS", x.righted(4, 2), 0);
        due("m 9", x.righted(4, 9), -1006);
        due("m 1", x.righted(4, 1), -1006);
        due("no such WAY", x.righted(7, 2), -1001);
        Checks.refused(x, 1, 0, 0, 0, 0, 2, 0);
    }

    private static void promise27() {
        says(27, "The WAY that TELLS most by SLIPS, of several the first. -5 no WAYS.");
        FourAskOne x = new FourAskOne();
        due("no WAYS", x.head(), -5);
        for (int n = 0; n < 8; n++) {
            x.way(n < 6 ? 0 : 5, 0);
        }
        due("no COMERS: the first", x.head(), 0);
        Checks.comer(x, 1, 0, 0, 9, 0, 0);
        Checks.comer(x, 2, 0, 0, 0, 0, 9);
        due("no ASKERS: the first", x.head(), 0);
        x.asker(3, 0, 0);
        due("all but the last two below 0", x.head(), 6);
        x.change(1, 5, 0);
        x.change(0, 5, 1);
        due("all below 0: the first", x.head(), 0);
        Checks.refused(x, 0, 0, 0, 0, 1, 0, 0);
        due("by SLIPS alike", drawnHouse().head(), 0);
    }

    /** SUMS 9 and 0. WAY 0: by SLIPS alike, in ORDER the second has more. WAY 1: all alike. */
    private static FourAskOne drawnHouse() {
        FourAskOne x = new FourAskOne();
        Checks.comer(x, 9, 0, 0, 5, 0, 0);
        Checks.comer(x, 0, 0, 0, 5, 1, 0);
        x.asker(1, 9, 0);
        x.asker(0, 9, 10);
        x.way(0, 0);
        x.way(4, 0);
        return x;
    }

    private static void bySlips() {
        FourAskOne x = drawnHouse();
        says(25, "TELLS of a WAY");
        due("by SLIPS alike", x.tells(0, true), 0);
        due("in ORDER", x.tells(0, false), -1);
        says(26, "RIGHTED of a WAY by SLIPS.");
        due("by SLIPS alike", x.righted(0, 2), 0);
        says(28, "JOINED with x tenths TELLS.");
        due("by SLIPS alike", x.joined(0, 1, 10), 0);
        due("by SLIPS alike", x.joined(1, 0, 0), 0);
        Checks.sentence("Terms", "of the greatest TOTALS (by SLIPS; of several the first)");
        due("by SLIPS alike: the first", x.lost(0, 1), 0);
        Checks.sentence("Terms", "TURNED: COMERS (bits) who would be TAKEN (by SLIPS) if one ASKER were away");
        due("each once", x.turned(0), 3);
    }

    private static void promises28And29() {
        FourAskOne x = houseOf(0);
        says(28, "JOINED with x tenths TELLS. -1001; -1006 (counted as -1, -6).");
        due("no COMERS", x.joined(0, 6, 0), 0);
        due("x above", x.joined(0, 6, 11), -1006);
        due("x below", x.joined(0, 6, -1), -1006);
        due("no such WAY", x.joined(7, 0, 11), -1001);
        due("no such WAY", x.joined(0, 7, 11), -1001);
        Checks.refused(x, 2, 0, 0, 0, 0, 2, 0);
        x.come(8);
        due("no ASKERS", x.joined(0, 6, 10), 0);
        x.asker(3, 9, 9);
        for (int way = 0; way < 7; way++) {
            due("10 tenths of " + way, x.joined(way, 0, 10), x.tells(way, true));
            due("0 tenths beside " + way, x.joined(0, way, 0), x.tells(way, true));
        }
        says(29, "The x of JOINED. -1.");
        due("no such WAY", x.weights(7, 0), -1);
        due("no such WAY", x.weights(0, -1), -1);
        due("a WAY with itself: the least", x.weights(6, 6), 0);
    }

    private static void promise30() {
        says(30, "HEADS. -1.");
        FourAskOne x = new FourAskOne();
        due("none there", x.heads(0), -1);
        x.asker(0, 0, 10);
        due("the only one", x.heads(0), 10000);
        for (int n = 1; n < 4; n++) {
            x.asker(0, 0, 10 - n);
        }
        int all = 0;
        for (int asker = 0; asker < 4; asker++) {
            all += x.heads(asker);
        }
        due("of four together", all, 40000);
        due("a fifth", x.heads(4), -1);
        due("below", x.heads(-1), -1);
    }

    private static void promise31() {
        says(31, "AGREE by a WAY, TAKEN in ORDER. -1; -5 no COMERS.");
        FourAskOne x = houseOf(0);
        due("no COMERS", x.agree(0), -5);
        due("no such WAY, no COMERS", x.agree(7), -1);
        Checks.comer(x, 0, 0, 0, 5, 1, 0);
        due("no ASKERS", x.agree(0), 0);
        Checks.comer(x, 0, 0, 0, 5, 2, 0);
        x.asker(1, 5, 0);
        x.asker(2, 9, 10);
        due("by slips the second's, in ORDER the first's", x.agree(0), 1);
        due("by slips", x.taken(0, true), 1);
        due("in ORDER", x.taken(0, false), 0);
        x.asker(1, 0, 10);
        due("the third takes the first of alike", x.agree(0), 2);
    }

    private static void promise32() {
        says(32, "WRONG by a WAY. -1; -5 no COMERS.");
        FourAskOne x = houseOf(0);
        due("no COMERS by slips", x.wrong(0, true), -5);
        due("no COMERS in ORDER", x.wrong(0, false), -5);
        due("no such WAY, no COMERS", x.wrong(7, true), -1);
        Checks.comer(x, 0, 0, 0, 0, 0, 0);
        due("one COMER", x.wrong(0, true), 0);
        Checks.comer(x, 9, 9, 9, 0, 0, 0);
        due("no ASKERS: the first is TAKEN", x.wrong(0, true), 27);
    }

    private static void promise33() {
        says(33, "LOST by a lot among k. -1; -5 fewer COMERS than k; -6 k.");
        FourAskOne x = houseOf(0);
        due("no COMERS", x.lost(0, 1), -5);
        due("k 0", x.lost(0, 0), -6);
        x.come(7);
        due("as many as k", x.lost(0, 7), 7 * x.comerOf(x.best(), 6) - x.status(3));
        due("fewer than k", x.lost(0, 8), -5);
        x.come(1);
        due("all eight", x.lost(0, 8), 8 * x.comerOf(x.best(), 6) - x.status(3));
        due("never nine", x.lost(0, 9), -5);
        due("below 0", x.lost(0, -1), -6);
        due("no such WAY", x.lost(7, 9), -1);
        Checks.refused(x, 1, 0, 0, 0, 3, 2, 0);
    }

    private static void promise34() {
        says(34, "TURNED (bits; no COMERS: 0). -1.");
        FourAskOne x = houseOf(0);
        x.asker(0, 0, 0);
        due("no COMERS", x.turned(0), 0);
        due("no such WAY", x.turned(7), -1);
        x.come(8);
        due("the only ASKER away: the first", x.turned(0), 1);
        Checks.refused(x, 1, 0, 0, 0, 0, 0, 0);
    }

    private static void promise35() {
        says(35, "PIECE.");
        FourAskOne x = new FourAskOne();
        due("no COMERS", x.piece(), 0);
        Checks.comer(x, 0, 0, 9, 0, 0, 0);
        due("one COMER", x.piece(), 0);
        Checks.comer(x, 0, 0, 8, 0, 0, 0);
        due("two, the third LINE alone", x.piece(), 2);
        Checks.refused(x, 0, 0, 0, 0, 0, 0, 0);
    }

    private static void promises36And37() {
        FourAskOne x = new FourAskOne();
        says(36, "AS THEY COME: in how many orders. -6.");
        due("one COMER", x.comes(1, 0), 1);
        due("one COMER goes by", x.comes(1, 1), -6);
        due("eight, none goes by", x.comes(8, 0), 5040);
        due("eight, seven go by", x.comes(8, 7), 5040);
        due("eight go by", x.comes(8, 8), -6);
        due("nine", x.comes(9, 1), -6);
        due("none", x.comes(0, 0), -6);
        due("fewer than none go by", x.comes(8, -1), -6);
        says(37, "The r. -6.");
        due("one COMER", x.lets(1), 0);
        due("two: both alike, the least", x.lets(2), 0);
        due("eight", x.lets(8), 3);
        due("none", x.lets(0), -6);
        due("nine", x.lets(9), -6);
        Checks.refused(x, 0, 0, 0, 0, 0, 7, 0);
    }

    /** Eight COMERS: SUMS and LOOKS as their numbers, MARKS 7 less those; four ASKERS without BONUS; eight WAYS. */
    private static FourAskOne eightFourAndEight() {
        FourAskOne x = new FourAskOne();
        for (int n = 0; n < 8; n++) {
            Checks.comer(x, n, 0, 0, n, 0, 7 - n);
            x.way(n % 7, 10);
        }
        for (int n = 0; n < 4; n++) {
            x.asker(1, 9, 5);
        }
        return x;
    }

    /** What comes of a house in which there is no room for one more of any. */
    private static void fullHouse() {
        Checks.sentence("Terms", "==== 3. WHAT COMES OF IT");
        FourAskOne x = eightFourAndEight();
        int[][] asked = {{0, 7, 28, 0, 128}, {5, 0, -28, 7, 1}, {7, 7, 28, 0, 128}};
        for (int[] a : asked) {
            due("TAKEN by slips by " + a[0], x.taken(a[0], true), a[1]);
            due("TAKEN in ORDER by " + a[0], x.taken(a[0], false), a[1]);
            due("TELLS by slips of " + a[0], x.tells(a[0], true), a[2]);
            due("TELLS in ORDER of " + a[0], x.tells(a[0], false), a[2]);
            due("RIGHTED of " + a[0], x.righted(a[0], 8), a[2]);
            due("WRONG by slips by " + a[0], x.wrong(a[0], true), a[3]);
            due("WRONG in ORDER by " + a[0], x.wrong(a[0], false), a[3]);
            due("LOST by " + a[0], x.lost(a[0], 8), 28);
            due("TURNED by " + a[0], x.turned(a[0]), a[4]);
            due("AGREE by " + a[0], x.agree(a[0]), 4);
        }
        due("BEST", x.best(), 7);
        due("head", x.head(), 0);
        due("JOINED", x.joined(7, 5, 5), 0);
        due("weights", x.weights(7, 5), 6);
        due("PIECE", x.piece(), 0);
        due("TOTAL", x.total(7, false, 7), 840);
        due("HEADS of the last", x.heads(3), 5000);
        Checks.row(x, 0, 0, 7, 6, 5, 4, 3, 2, 1, 0);
        due("a told RANKING may be", x.judge(0), NONE);
        due("a told RANKING", x.told(0), 28);
    }

    private static void fullHouseSays() {
        says(8, "What the WAY in SHELF s, taken for one of a KIND, says");
        FourAskOne x = eightFourAndEight();
        int[] own = {10, 10, 5, 1, 8, 0, 0, 10};
        for (int way = 0; way < 8; way++) {
            x.show(7, way);
            due("WAY " + way, x.says(7, way % 7), own[way]);
        }
        x.show(7, 6);
        x.change(7, 4, 1);
        due("names: 840, and 0 with BONUSES of 360", x.says(7, 6), 0);
        x.change(7, 5, 5);
        due("names: 840, and 600 with BONUSES of 360", x.says(7, 6), 1);
    }

    private static int judged(FourAskOne x, long... ranking) {
        Checks.row(x, 0, 3, ranking);
        return x.judge(0);
    }

    private static void promise38() {
        says(38, "Where a told RANKING in SHELF s may not be (also where it ends too soon, or goes on); NONE.");
        FourAskOne x = houseOf(3);
        due("it may be", judged(x, 2, 0, 1), NONE);
        due("no elements", judged(x), 0);
        due("it ends too soon", judged(x, 2, 0), 2);
        due("it goes on", judged(x, 2, 0, 1, 2), 3);
        due("it goes on with what may not be", judged(x, 2, 0, 1, 3), 3);
        due("one that isn't there", judged(x, 0, 3, 1), 1);
        due("below 0", judged(x, 0, 1, -1), 2);
        due("one twice", judged(x, 1, 0, 1), 2);
        due("32 more than one", judged(x, 32, 1, 2), 0);
        due("32 more than one", judged(x, 0, 33, 2), 1);
        due("far off", judged(x, 0, MOST, 2), 1);
        due("far off", judged(x, 0, LEAST, 2), 1);
        Checks.refused(x, 0, 0, 0, 0, 0, 0, 0);
        x.clear();
        due("none of none", judged(x), NONE);
        due("one of none", judged(x, 0), 0);
        Checks.refused(x, 0, 0, 0, 0, 0, 0, 0);
    }

    private static void promise39() {
        says(39, "TELLS by a told RANKING. -1001; -1002; -1003; -1006 it may not be (counted as -1, -2, -3, -6).");
        FourAskOne x = new FourAskOne();
        x.way(0, 0);
        Checks.row(x, 0, 0);
        due("none of none", x.told(0), 0);
        Checks.comer(x, 1, 0, 0, 0, 0, 0);
        Checks.comer(x, 2, 0, 0, 0, 0, 0);
        due("it ends too soon", x.told(0), -1006);
        Checks.row(x, 0, 0, 1, 0);
        due("it may be", x.told(0), 1);
        Checks.row(x, 0, 0, 0, 1);
        due("below 0, no REFUSAL", x.told(0), -1);
        Checks.row(x, 0, 0, 0, 1, 0);
        due("it goes on", x.told(0), -1006);
        due("no such SHELF", x.told(8), -1001);
        due("NOTHING", x.told(7), -1003);
        x.show(7, 0);
        due("a WAY", x.told(7), -1002);
        Checks.refused(x, 1, 1, 1, 0, 0, 2, 0);
    }

    private static void promise40() {
        says(40, "BY DRAWS n COMERS (1 to 8) come, until there is no room: how many. -6.");
        FourAskOne x = new FourAskOne();
        due("one", x.come(1), 1);
        due("all there is room for", x.come(8), 7);
        int seed = x.status(5);
        due("no room", x.come(1), 0);
        due("no room", x.come(8), 0);
        due("nothing is drawn", x.status(5), seed);
        due("none", x.come(0), -6);
        due("nine", x.come(9), -6);
        due("nothing is drawn", x.status(5), seed);
        FourAskOne y = new FourAskOne();
        due("eight at once", y.come(8), 8);
        due("the same SEED", y.status(5), seed);
        FourAskOne z = new FourAskOne();
        z.come(7);
        int before = z.status(5);
        due("one of eight", z.come(8), 1);
        z.clear();
        z.seed(before);
        z.come(1);
        due("no DRAWS for those without room", z.status(5), seed);
    }

    private static void promise41() {
        says(41, "All COMERS go: how many there were.");
        FourAskOne x = houseOf(8);
        due("eight", x.clear(), 8);
        due("none", x.clear(), 0);
        due("how many now", x.status(0), 0);
        due("SUMS now", x.status(3), 0);
        due("ASKERS stay", x.status(1), 4);
        due("WAYS stay", x.status(2), 7);
        due("room again", x.come(8), 8);
    }

    private static void promise42() {
        says(42, "SEED becomes v: what it was (nothing is refused).");
        FourAskOne x = new FourAskOne();
        int[] seeds = {0, -1, LEAST, MOST, 1};
        int was = 1;
        for (int v : seeds) {
            due("what it was", x.seed(v), was);
            due("what it is", x.status(5), v);
            was = v;
        }
        Checks.refused(x, 0, 0, 0, 0, 0, 0, 0);
    }

    private static void promise43() {
        says(43, "An ACT of a WAY with x. 0, and no TRACE then: no such WAY, act.");
        int[][] none = {{1, 0}, {-1, 0}, {MOST, 2}, {LEAST, 2}, {0, 3}, {0, -1}, {0, MOST}, {0, LEAST}, {1, 3}};
        for (int[] act : none) {
            FourAskOne x = new FourAskOne();
            x.way(6, 5);
            x.act(0, 2, 9);
            due("act " + act[1] + " of WAY " + act[0], x.act(act[0], act[1], 9), 0);
            due("THE TRACE", x.trace(0), NONE);
            due("bodies", x.status(6), 0);
            Checks.refused(x, 0, 0, 0, 0, 0, 0, 0);
        }
        FourAskOne y = new FourAskOne();
        due("no WAYS", y.act(0, 0, 5), 0);
    }

    private static void promise44() {
        says(44, "THE TRACE's i-th body. NONE: none such.");
        FourAskOne x = new FourAskOne();
        due("none yet", x.trace(0), NONE);
        x.way(0, 0);
        x.act(0, 1, 0);
        int[][] bodies = {{-1, NONE}, {0, 11}, {1, 10}, {2, NONE}, {19, NONE}, {20, NONE}, {MOST, NONE}, {LEAST, NONE}};
        for (int[] body : bodies) {
            due("body " + body[0], x.trace(body[0]), body[1]);
        }
        x.act(0, 2, 0);
        due("as many again: the fourth", x.trace(3), 10);
        x.act(0, 0, 0);
        due("none left of a longer one", x.trace(1), NONE);
    }

    private static void promise45() {
        says(45, "THE IMAGE of all but SHELVES (and THE IMAGE, REFUSALS, the FAULT, THE TRACE) is taken: "
            + "how many WAYS.");
        FourAskOne x = new FourAskOne();
        due("of nothing", x.image(), 0);
        x.way(0, 0);
        Checks.row(x, 0, 0, 1);
        due("of one WAY", x.image(), 1);
        x.set(0, 0, 2);
        x.best();
        Checks.readFault(x, "x", 0);
        x.act(0, 0, 1);
        for (int way = 1; way < 8; way++) {
            x.way(way % 7, way);
        }
        due("the latest IMAGE", x.restore(), 1);
        due("not SHELVES", x.element(0, 0), 2);
        due("not REFUSALS", x.status(15), 1);
        due("not the FAULT", x.fault(), 0);
        due("not THE TRACE", x.trace(0), 10);
        for (int way = 1; way < 8; way++) {
            x.way(way % 7, way);
        }
        due("of eight WAYS", x.image(), 8);
    }

    private static void promise46None() {
        says(46, "-6 there is none.");
        FourAskOne x = houseOf(8);
        due("there is none", x.restore(), -6);
        due("COMERS as they were", x.status(0), 8);
        x.image();
        due("there is one", x.restore(), 7);
        due("there is one still", x.restore(), 7);
        Checks.refused(x, 0, 0, 0, 0, 0, 1, 0);
    }

    private static void promise46All() {
        says(46, "All is as THE IMAGE has it");
        FourAskOne x = new FourAskOne();
        x.image();
        x.come(8);
        x.asker(1, 1, 1);
        x.way(1, 1);
        due("WAYS", x.restore(), 0);
        due("COMERS", x.status(0), 0);
        due("ASKERS", x.status(1), 0);
        due("first in ORDER", x.status(4), NONE);
        due("SEED", x.status(5), 1);
        FourAskOne y = houseOf(8);
        y.chief(3);
        String was = Checks.seen(y);
        y.image();
        y.clear();
        y.chief(2);
        y.drawn(0, 0);
        y.seed(0);
        y.way(0, 0);
        Checks.comer(y, 1, 1, 1, 1, 1, 1);
        due("WAYS", y.restore(), 7);
        Checks.same("all", Checks.seen(y), was);
    }

    private static void promise46Shelves() {
        says(46, "SHELVES with WAYS hold those of these numbers, or NOTHING: how many WAYS.");
        FourAskOne x = new FourAskOne();
        x.way(0, 5);
        x.image();
        x.way(1, 6);
        x.show(0, 1);
        x.show(6, 0);
        x.show(7, 1);
        x.row(1, 2, 160);
        due("WAYS", x.restore(), 1);
        due("behind the last", x.holds(0), NONE);
        due("the last that is there", x.holds(6), 0);
        due("behind the last", x.holds(7), NONE);
        due("a ROW", x.holds(1), 102);
        due("NOTHING", x.holds(2), NONE);
        due("it says its a", x.says(6, 0), 5);
        due("NOTHING says nothing", x.says(7, 0), -3);
        x.way(3, 8);
        due("NOTHING still", x.holds(7), NONE);
    }

    private static void promise47() {
        says(47, "3 SUMS of all COMERS, 4 the first in ORDER (NONE), 5 SEED, "
            + "6 bodies that ran in the latest act() (all, kept or not)");
        FourAskOne x = new FourAskOne();
        due("SUMS of none", x.status(3), 0);
        due("nobody first", x.status(4), NONE);
        due("no act yet", x.status(6), 0);
        for (int n = 0; n < 8; n++) {
            Checks.comer(x, 9, 9, 9, 0, 0, 0);
        }
        due("SUMS, the most", x.status(3), 216);
        x.asker(0, 0, 0);
        due("the first", x.status(4), 0);
        x.way(6, 0);
        x.act(0, 2, 0);
        due("the most bodies", x.status(6), 8);
        says(47, "NONE for another what.");
        for (int what : new int[] {-1, 7, 8, 9, 10, 18, 19, 99, MOST, LEAST}) {
            due("what " + what, x.status(what), NONE);
        }
    }

    private static void promise47Refusals() {
        says(47, "11 to 17: REFUSALS -1 to -7.");
        FourAskOne x = new FourAskOne();
        Checks.refused(x, 0, 0, 0, 0, 0, 0, 0);
        x.chief(0);
        Checks.refused(x, 1, 0, 0, 0, 0, 0, 0);
        x.row(0, 0, 1);
        x.says(0, 0);
        Checks.refused(x, 1, 1, 0, 0, 0, 0, 0);
        x.set(1, 0, 0);
        Checks.refused(x, 1, 1, 1, 0, 0, 0, 0);
        x.row(0, 0, -1);
        Checks.refused(x, 1, 1, 1, 1, 0, 0, 0);
        x.best();
        Checks.refused(x, 1, 1, 1, 1, 1, 0, 0);
        x.lets(0);
        Checks.refused(x, 1, 1, 1, 1, 1, 1, 0);
        x.row(0, 0, 161);
        Checks.refused(x, 1, 1, 1, 1, 1, 1, 1);
    }
}
