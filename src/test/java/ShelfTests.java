/** Promises 1 to 8: a new object, and what SHELVES hold and say. */
public final class ShelfTests {
    public static void main(String[] args) {
        promise1();
        promise2();
        promise3();
        promise4();
        promise4Refused();
        promise5();
        promise6();
        promise7();
        promise8();
        promise8Blind();
        Checks.end();
    }

    private static void due(String what, long got, long want) {
        Checks.due(what, got, want);
    }

    private static void promise1() {
        FourAskOne x = new FourAskOne();
        for (int what = 0; what <= 3; what++) {
            due("1: status(" + what + ")", x.status(what), 0);
        }
        due("1: first in ORDER", x.status(4), -1);
        due("1: SEED", x.status(5), 1);
        due("1: bodies", x.status(6), 0);
        Checks.refused(x, 0, 0, 0, 0, 0, 0, 0);
        for (int s = 0; s < 8; s++) {
            due("1: holds", x.holds(s), -1);
        }
        due("1: fault", x.fault(), -1);
        due("1: trace", x.trace(0), -1);
        due("1: comer", x.comerOf(0, 0), -5);
        due("1: asker", x.askerOf(0, 0), -5);
        due("1: way", x.wayOf(0, 0), -5);
        due("1: image", x.restore(), -6);
    }

    private static void promise2() {
        FourAskOne x = new FourAskOne();
        due("2", x.row(0, 0, 0), 1);
        due("2", x.row(7, 3, 160), 1);
        due("2: last element", x.set(7, 159, 5), 1);
        due("2: behind the last", x.set(7, 160, 5), -5);
        due("2: none there", x.set(0, 0, 5), -5);
        due("2: new", x.row(7, 3, 160), 1);
        due("2: 0 at first", x.element(7, 159), 0);
        due("2: shelf", x.row(-1, 9, -1), -1);
        due("2: shelf", x.row(8, 9, -1), -1);
        due("2: below", x.row(0, 9, -1), -4);
        due("2: below", x.row(0, 0, Integer.MIN_VALUE), -4);
        due("2: sort", x.row(0, 4, 161), -6);
        due("2: sort", x.row(0, -1, 161), -6);
        due("2: room", x.row(0, 0, 161), -7);
        due("2: room", x.row(0, 0, Integer.MAX_VALUE), -7);
        Checks.refused(x, 2, 0, 0, 2, 2, 2, 2);
        due("2: refused changes nothing", x.holds(0), 100);
        due("2: a row in place of a way", x.way(0, 0), 0);
        x.show(0, 0);
        due("2", x.row(0, 1, 1), 1);
        due("2", x.holds(0), 101);
        due("2: a row alone", x.copy(0, 0, 0, 0, 1), 1);
    }

    private static void promise3() {
        FourAskOne x = new FourAskOne();
        long v = 0x123456789ABCDEF0L;
        long[] kept = {(byte) 0xF0, (short) 0xDEF0, (int) 0x9ABCDEF0L, v};
        for (int sort = 0; sort <= 3; sort++) {
            x.row(sort, sort, 3);
            due("3", x.set(sort, 2, v), 1);
            due("3: lowest bits of sort " + sort, x.element(sort, 2), kept[sort]);
            due("3: others as they were", x.element(sort, 1), 0);
        }
        x.way(0, 0);
        x.show(4, 0);
        due("3: shelf", x.set(8, 9, 1), -1);
        due("3: shelf", x.set(-1, 9, 1), -1);
        due("3: way", x.set(4, 9, 1), -2);
        due("3: nothing", x.set(5, 9, 1), -3);
        due("3: element", x.set(0, 3, 1), -5);
        due("3: element", x.set(0, -1, 1), -5);
        due("3: element", x.set(0, Integer.MAX_VALUE, 1), -5);
        Checks.refused(x, 2, 1, 1, 0, 3, 0, 0);
    }

    private static void promise4() {
        FourAskOne x = new FourAskOne();
        Checks.row(x, 0, 1, 10, 20, 30, 40, 50);
        Checks.row(x, 1, 1, 1, 2, 3);
        due("4", x.copy(0, 1, 3, 1, 2), 1);
        rowIs(x, 1, 1, 40, 50);
        rowIs(x, 0, 10, 20, 30, 40, 50);
        due("4: on itself, forward", x.copy(0, 0, 0, 1, 4), 1);
        rowIs(x, 0, 10, 10, 20, 30, 40);
        due("4: on itself, back", x.copy(0, 0, 1, 0, 4), 1);
        rowIs(x, 0, 10, 20, 30, 40, 40);
        due("4: none", x.copy(0, 1, 5, 3, 0), 1);
        rowIs(x, 1, 1, 40, 50);
    }

    private static void rowIs(FourAskOne x, int s, long... values) {
        for (int i = 0; i < values.length; i++) {
            due("4: element " + i, x.element(s, i), values[i]);
        }
        due("4: end", x.element(s, values.length), 0);
    }

    private static void promise4Refused() {
        FourAskOne x = new FourAskOne();
        x.way(0, 0);
        x.row(0, 1, 3);
        x.row(1, 1, 2);
        x.row(2, 2, 3);
        x.show(3, 0);
        due("4: shelf", x.copy(8, 3, 0, 0, -1), -1);
        due("4: shelf", x.copy(3, -1, 0, 0, -1), -1);
        due("4: sorts", x.copy(0, 2, 0, 0, -1), -2);
        due("4: way and nothing", x.copy(3, 4, 0, 0, -1), -2);
        due("4: nothing and way", x.copy(4, 3, 0, 0, -1), -2);
        due("4: way and row", x.copy(3, 0, 0, 0, -1), -2);
        due("4: nothing", x.copy(0, 4, 0, 0, -1), -3);
        due("4: nothing", x.copy(4, 0, 0, 0, -1), -3);
        due("4: both nothing", x.copy(4, 5, 0, 0, -1), -3);
        due("4: below", x.copy(0, 1, -1, 0, -1), -4);
        due("4: i", x.copy(0, 1, -1, 0, 1), -5);
        due("4: j", x.copy(0, 1, 0, -1, 1), -5);
        due("4: end of p", x.copy(0, 1, 3, 0, 1), -5);
        due("4: end of q", x.copy(0, 1, 0, 1, 2), -5);
        due("4: i behind the end", x.copy(0, 1, 4, 0, 0), -5);
        due("4: j behind the end", x.copy(0, 1, 0, 3, 0), -5);
        due("4: far", x.copy(0, 1, Integer.MAX_VALUE, 0, 2), -5);
        due("4: far", x.copy(0, 1, 1, 1, Integer.MAX_VALUE), -5);
        Checks.refused(x, 2, 4, 3, 1, 8, 0, 0);
    }

    private static void promise5() {
        FourAskOne x = new FourAskOne();
        Checks.row(x, 0, 0, 300, 200);
        x.way(0, 0);
        x.show(1, 0);
        due("5", x.element(0, 0), 44);
        due("5: the highest bit is the sign", x.element(0, 1), -56);
        due("5", x.element(0, 2), 0);
        due("5", x.element(0, -1), 0);
        due("5", x.element(0, Integer.MAX_VALUE), 0);
        x.row(3, 3, 160);
        x.set(3, 159, -7);
        due("5: the last of all", x.element(3, 159), -7);
        due("5: behind the last of all", x.element(3, 160), 0);
        due("5: way", x.element(1, 0), 0);
        due("5: nothing", x.element(2, 0), 0);
        due("5: shelf", x.element(8, 0), 0);
        due("5: shelf", x.element(-1, 0), 0);
        Checks.refused(x, 0, 0, 0, 0, 0, 0, 0);
    }

    private static void promise6() {
        FourAskOne x = new FourAskOne();
        x.way(1, 5);
        x.way(2, 5);
        due("6", x.show(7, 1), 1);
        due("6", x.holds(7), 1);
        due("6: no such way", x.show(7, 2), -1);
        due("6: no such way", x.show(7, -2), -1);
        due("6: no such shelf", x.show(8, 0), -1);
        due("6: no such shelf", x.show(-1, -1), -1);
        due("6: as it was", x.holds(7), 1);
        Checks.refused(x, 4, 0, 0, 0, 0, 0, 0);
        x.row(0, 0, 1);
        due("6: nothing", x.show(0, -1), 0);
        due("6", x.holds(0), -1);
        due("6: nothing", x.show(7, -1), 0);
        due("6", x.holds(7), -1);
        Checks.row(x, 0, 0, 9);
        due("6: in place of a row", x.show(0, 0), 1);
        due("6", x.holds(0), 0);
        due("6", x.element(0, 0), 0);
        due("6: no row now", x.set(0, 0, 1), -2);
    }

    private static void promise7() {
        FourAskOne x = Checks.smallHouse();
        for (int sort = 0; sort <= 3; sort++) {
            x.row(sort, sort, 0);
            due("7", x.holds(sort), 100 + sort);
        }
        x.show(4, 6);
        due("7", x.holds(4), 6);
        due("7", x.holds(5), -1);
        due("7", x.holds(8), -1);
        due("7", x.holds(-1), -1);
        Checks.refused(x, 0, 0, 0, 0, 0, 0, 0);
    }

    private static void promise8() {
        FourAskOne x = Checks.smallHouse();
        int[] parents = {-1, 0, 1, 0, 0, 0, 5};
        int[] as = {37, 13, 18, 7, 13, 50, 99};
        int[] own = {37, 2, 3, 1, 2, 0, 0};
        for (int way = 0; way < 7; way++) {
            x.show(0, way);
            for (int kind = 0; kind < 7; kind++) {
                int want = kind == 0 ? as[way] : kind == way || kind == parents[way] ? own[way] : -2;
                due("8: way " + way + " as " + kind, x.says(0, kind), want);
            }
            due("8: kind", x.says(0, 7), -1);
            due("8: kind", x.says(0, -1), -1);
        }
        due("8: shelf", x.says(8, 0), -1);
        due("8: shelf", x.says(-1, 0), -1);
        x.row(1, 0, 1);
        due("8: row", x.says(1, 0), -2);
        due("8: row and kind", x.says(1, 7), -1);
        due("8: nothing", x.says(2, 0), -3);
        due("8: nothing and kind", x.says(2, 7), -1);
        Checks.refused(x, 18, 35, 1, 0, 0, 0, 0);
        x.change(2, 5, 8);
        x.show(0, 5);
        due("8: greatest marks", x.says(0, 5), 2);
        x.show(0, 4);
        x.change(2, 2, 0);
        due("8: letters, of sums 12, 12, 9", x.says(0, 4), 3);
        x.change(2, 2, 4);
        due("8: letters, of sums 12, 12, 13", x.says(0, 4), 2);
        x.clear();
        due("8: letters of nobody", x.says(0, 4), 0);
        x.show(0, 5);
        due("8: marks of nobody", x.says(0, 5), -1);
        x.show(0, 6);
        due("8: names of nobody", x.says(0, 6), 0);
        Checks.refused(x, 18, 35, 1, 0, 0, 0, 0);
    }

    private static void promise8Blind() {
        FourAskOne x = new FourAskOne();
        Checks.read(x, "comer 0 0 0 0 0 5;comer 0 0 0 0 1 4;way 6 0", 3);
        x.show(0, 6);
        x.show(0, 0);
        due("8: no askers", x.says(0, 6), 0);
        x.asker(1, 3, 10);
        due("8: alike, the first", x.says(0, 6), 0);
        x.drawn(0, 0);
        x.change(1, 4, 2);
        due("8: names of others", x.says(0, 6), 0);
        x.change(1, 4, 1);
        x.asker(1, 1, 10);
        due("8: 300 and 280", x.says(0, 6), 0);
        x.asker(1, 5, 10);
        due("8: 450 and 450", x.says(0, 6), 0);
        x.asker(1, 4, 10);
        due("8: 600 and 610 with names on", x.says(0, 6), 1);
    }
}
