/** Promises 9 to 19: COMERS, ASKERS, WAYS, and HOUSES read from texts. */
public final class HouseTests {
    public static void main(String[] args) {
        promise9();
        promise9Sorts();
        promise10();
        promise11();
        promise12();
        promise13();
        promise14();
        promise15();
        promise16();
        promise17();
        promise18();
        promise18Nothing();
        promise18NothingLeft();
        promise18Refused();
        promise19Letters();
        promise19Numbers();
        promise19Room();
        promise19Latest();
        Checks.end();
    }

    private static void due(String what, long got, long want) {
        Checks.due(what, got, want);
    }

    private static void comerIs(FourAskOne x, int comer, int... numbers) {
        for (int what = 0; what < numbers.length; what++) {
            due("number " + what + " of comer " + comer, x.comerOf(comer, what), numbers[what]);
        }
    }

    private static void askerIs(FourAskOne x, int asker, int... numbers) {
        for (int what = 0; what < numbers.length; what++) {
            due("number " + what + " of asker " + asker, x.askerOf(asker, what), numbers[what]);
        }
    }

    private static void promise9() {
        FourAskOne x = new FourAskOne();
        Checks.row(x, 0, 2, 7, 1, 2, 3, 4, 3, 9, 0);
        due("9", x.comer(0, 1), 0);
        due("9", x.comer(0, 2), -6);
        comerIs(x, 0, 1, 2, 3, 4, 3, 9, 6);
        due("9: before the row", x.comer(0, -1), -5);
        due("9: behind the row", x.comer(0, 3), -5);
        due("9: far behind the row", x.comer(0, Integer.MAX_VALUE), -5);
        due("9: shelf", x.comer(8, 3), -1);
        due("9: shelf", x.comer(-1, 3), -1);
        due("9: nothing", x.comer(1, 3), -3);
        x.way(0, 0);
        x.show(1, 0);
        due("9: way", x.comer(1, 3), -2);
        Checks.refused(x, 2, 1, 1, 0, 3, 1, 0);
        for (int what = 0; what < 6; what++) {
            int most = what == 4 ? 3 : 9;
            Checks.row(x, 2, 2, 0, 0, 0, 0, 0, 0);
            x.set(2, what, -1);
            due("9: below 0, " + what, x.comer(2, 0), -6);
            x.set(2, what, most + 1);
            due("9: above, " + what, x.comer(2, 0), -6);
            x.set(2, what, most);
            due("9: the most, " + what, x.comer(2, 0), 1 + what);
        }
        due("9: the last", x.comer(2, 0), 7);
        due("9: no room", x.comer(2, 0), -7);
        x.set(2, 0, 10);
        due("9: wrong ahead of room", x.comer(2, 0), -6);
        due("9: beyond ahead of wrong", x.comer(2, 1), -5);
        due("9: how many", x.status(0), 8);
    }

    private static void promise9Sorts() {
        FourAskOne x = new FourAskOne();
        for (int sort = 0; sort <= 3; sort++) {
            Checks.row(x, sort, sort, 1, 2, 3, 4, 1, sort);
            due("9: sort " + sort, x.comer(sort, 0), sort);
            comerIs(x, sort, 1, 2, 3, 4, 1, sort, 6);
        }
        x.set(3, 0, 0x7_0000_0005L);
        due("9: lowest 32 bits of longs", x.comer(3, 0), 4);
        comerIs(x, 4, 5, 2, 3, 4, 1, 3, 10);
        x.set(3, 0, 0x8000_0000L);
        due("9: lowest 32 bits of longs", x.comer(3, 0), -6);
    }

    private static void promise10() {
        FourAskOne x = new FourAskOne();
        due("10", x.asker(3, 9, 10), 0);
        due("10", x.asker(0, 0, 0), 1);
        int[][] wrong = {{4, 0, 0}, {-1, 0, 0}, {0, 10, 0}, {0, -1, 0}, {0, 0, 11}, {0, 0, -1}};
        for (int[] w : wrong) {
            due("10: wrong", x.asker(w[0], w[1], w[2]), -6);
        }
        due("10", x.asker(1, 2, 3), 2);
        due("10", x.asker(2, 3, 4), 3);
        due("10: no room", x.asker(2, 3, 4), -7);
        due("10: wrong ahead of room", x.asker(4, 3, 4), -6);
        askerIs(x, 0, 3, 9, 10, 0);
        askerIs(x, 1, 0, 0, 0, 1);
        askerIs(x, 2, 1, 2, 3, 2);
        askerIs(x, 3, 2, 3, 4, 3);
        due("10", x.status(1), 4);
        Checks.refused(x, 0, 0, 0, 0, 0, 7, 1);
    }

    private static void promise11() {
        FourAskOne x = new FourAskOne();
        for (int kind = 0; kind <= 6; kind++) {
            due("11", x.way(kind, 99 - kind), kind);
            due("11: kind", x.wayOf(kind, 0), kind);
            due("11: a", x.wayOf(kind, 1), 99 - kind);
        }
        due("11: kind", x.way(7, 100), -1);
        due("11: kind", x.way(-1, -1), -1);
        due("11: a", x.way(0, 100), -6);
        due("11: a", x.way(0, -1), -6);
        due("11: the last", x.way(6, 0), 7);
        due("11: no room", x.way(6, 0), -7);
        due("11: wrong ahead of room", x.way(6, 100), -6);
        due("11", x.status(2), 8);
        Checks.refused(x, 2, 0, 0, 0, 0, 3, 1);
    }

    private static void promise12() {
        FourAskOne x = Checks.smallHouse();
        comerIs(x, 0, 2, 4, 6, 5, 1, 7, 12);
        comerIs(x, 1, 9, 0, 3, 7, 2, 7, 12);
        comerIs(x, 2, 1, 8, 8, 3, 1, 2, 17);
        due("12", x.comerOf(3, 0), -5);
        due("12", x.comerOf(-1, 0), -5);
        due("12", x.comerOf(0, 7), -5);
        due("12", x.comerOf(0, -1), -5);
        Checks.refused(x, 0, 0, 0, 0, 4, 0, 0);
    }

    private static void promise13() {
        FourAskOne x = Checks.smallHouse();
        askerIs(x, 0, 1, 6, 4, 0);
        askerIs(x, 1, 2, 3, 5, 1);
        askerIs(x, 2, 0, 9, 2, 2);
        x.chief(2);
        askerIs(x, 0, 1, 6, 4, 1);
        askerIs(x, 1, 2, 3, 5, 2);
        askerIs(x, 2, 0, 9, 2, 0);
        due("13", x.askerOf(3, 0), -5);
        due("13", x.askerOf(-1, 0), -5);
        due("13", x.askerOf(0, 4), -5);
        due("13", x.askerOf(0, -1), -5);
        Checks.refused(x, 0, 0, 0, 0, 4, 0, 0);
    }

    private static void promise14() {
        FourAskOne x = Checks.smallHouse();
        int[] as = {37, 13, 18, 7, 13, 50, 99};
        for (int way = 0; way < as.length; way++) {
            due("14", x.wayOf(way, 0), way);
            due("14", x.wayOf(way, 1), as[way]);
        }
        due("14", x.wayOf(7, 0), -5);
        due("14", x.wayOf(-1, 0), -5);
        due("14", x.wayOf(0, 2), -5);
        due("14", x.wayOf(0, -1), -5);
        Checks.refused(x, 0, 0, 0, 0, 4, 0, 0);
    }

    private static void promise15() {
        FourAskOne x = Checks.smallHouse();
        int[] were = {9, 0, 3, 7, 2, 7};
        for (int what = 0; what < 6; what++) {
            int most = what == 4 ? 3 : 9;
            due("15: what it was", x.change(1, what, most), were[what]);
            due("15: above", x.change(1, what, most + 1), -6);
            due("15: below", x.change(1, what, -1), -6);
            due("15: what it is", x.change(1, what, what == 4 ? 0 : what), most);
        }
        comerIs(x, 1, 0, 1, 2, 3, 0, 5, 3);
        comerIs(x, 0, 2, 4, 6, 5, 1, 7, 12);
        due("15: comer", x.change(3, 6, 99), -1);
        due("15: comer", x.change(-1, 6, 99), -1);
        due("15: number", x.change(0, 6, 99), -5);
        due("15: number", x.change(0, -1, 99), -5);
        Checks.refused(x, 2, 0, 0, 0, 2, 12, 0);
    }

    private static void promise16() {
        FourAskOne x = Checks.smallHouse();
        due("16", x.drawn(1, 10), 5);
        due("16", x.drawn(1, 0), 10);
        due("16", x.drawn(2, 7), 2);
        due("16: asker", x.drawn(3, 11), -1);
        due("16: asker", x.drawn(-1, 11), -1);
        due("16: above", x.drawn(1, 11), -6);
        due("16: below", x.drawn(1, -1), -6);
        askerIs(x, 0, 1, 6, 4, 0);
        askerIs(x, 1, 2, 3, 0, 1);
        askerIs(x, 2, 0, 9, 7, 2);
        Checks.refused(x, 2, 0, 0, 0, 0, 2, 0);
    }

    private static void orderIs(FourAskOne x, int... askers) {
        for (int place = 0; place < askers.length; place++) {
            due("17: place of " + askers[place], x.askerOf(askers[place], 3), place);
        }
        due("17: first", x.status(4), askers[0]);
    }

    private static void promise17() {
        FourAskOne x = Checks.smallHouse();
        due("17", x.chief(0), 0);
        orderIs(x, 0, 1, 2);
        due("17", x.chief(2), 2);
        orderIs(x, 2, 0, 1);
        due("17", x.chief(0), 1);
        orderIs(x, 0, 2, 1);
        due("17: a new one last", x.asker(0, 0, 0), 3);
        orderIs(x, 0, 2, 1, 3);
        due("17", x.chief(3), 3);
        orderIs(x, 3, 0, 2, 1);
        due("17: no such one", x.chief(4), -1);
        due("17: no such one", x.chief(-1), -1);
        Checks.refused(x, 2, 0, 0, 0, 0, 0, 0);
        due("17: nobody", new FourAskOne().chief(0), -1);
    }

    private static void promise18() {
        FourAskOne x = new FourAskOne();
        Checks.read(x, "comer 1 2 3 4 1 6", 1);
        Checks.read(x, "asker 2 9 10;asker 0 0 0;chief 1;comer 09 00 9 9 3 9;way 4 99;way 06 07;chief 00;chief 01", 8);
        comerIs(x, 0, 1, 2, 3, 4, 1, 6, 6);
        comerIs(x, 1, 9, 0, 9, 9, 3, 9, 18);
        askerIs(x, 0, 2, 9, 10, 1);
        askerIs(x, 1, 0, 0, 0, 0);
        due("18", x.wayOf(0, 0), 4);
        due("18", x.wayOf(0, 1), 99);
        due("18", x.wayOf(1, 0), 6);
        due("18", x.wayOf(1, 1), 7);
        Checks.read(x, "chief 0", 1);
        due("18", x.status(4), 0);
        Checks.read(x, "asker 1 1 1;asker 2 2 2;chief 3", 3);
        due("18", x.status(4), 3);
        due("18: the SEED as it was", x.status(5), 1);
        String text = "way 0 5";
        for (int sort = 1; sort <= 3; sort++) {
            x.row(0, sort, text.length());
            for (int i = 0; i < text.length(); i++) {
                x.set(0, i, text.charAt(i) + (sort == 3 ? 0x5_0000_0000L : 0));
            }
            due("18: sort " + sort, x.house(0), 1);
        }
        Checks.refused(x, 0, 0, 0, 0, 0, 0, 0);
    }

    private static void promise18Nothing() {
        FourAskOne x = Checks.smallHouse();
        x.seed(77);
        String was = Checks.seen(x);
        Checks.readFault(x, "comer 1 1 1 1 1 1;asker 1 1 1;way 1 1;chief 3;chief 4", 52);
        Checks.same("18: all or nothing", Checks.seen(x), was);
    }

    private static void promise18NothingLeft() {
        FourAskOne x = Checks.smallHouse();
        String was = Checks.seen(x);
        Checks.readFault(x, "chief 2;asker 1 1 1;", 20);
        Checks.same("18: all or nothing", Checks.seen(x), was);
        Checks.read(x, "way 1 1", 1);
        due("18: nothing is left of a text with a FAULT", x.status(1), 3);
        due("18: nothing is left of a text with a FAULT", x.status(4), 0);
    }

    private static void promise18Refused() {
        FourAskOne x = new FourAskOne();
        x.way(0, 0);
        x.show(1, 0);
        due("18: shelf", x.house(8), -1);
        due("18: shelf", x.house(-1), -1);
        due("18: way", x.house(1), -2);
        due("18: nothing", x.house(0), -3);
        Checks.readFault(x, "", 0);
        Checks.readFault(x, "x", 0);
        Checks.refused(x, 2, 1, 1, 0, 0, 2, 0);
    }

    private static FourAskOne withAskers() {
        FourAskOne x = new FourAskOne();
        for (int n = 0; n < 3; n++) {
            x.asker(n, n, n);
        }
        return x;
    }

    private static void fault(String text, int place) {
        Checks.readFault(withAskers(), text, place);
    }

    private static void promise19Letters() {
        String[] words = {"comer", "asker", "way", "chief"};
        for (String word : words) {
            for (int n = 1; n <= word.length(); n++) {
                String start = word.substring(0, n);
                fault(start, n);
                fault(start + "?", n);
                fault(start + ";", n);
                fault("chief 0;" + start, n + 8);
            }
            fault(" " + word, 0);
            fault(word + " ", word.length() + 1);
            fault(word + " ;", word.length() + 1);
            fault(word + "  0", word.length() + 1);
        }
        fault("c", 1);
        fault("ca", 1);
        fault("cho", 2);
        fault("COMER 1 1 1 1 1 1", 0);
        fault("way 0 5;", 8);
        fault("way 0 5;;way 0 5", 8);
        fault("way 0 5; way 0 5", 8);
        fault("way 0 5 ;way 0 5", 7);
        fault("way 0 5 ", 7);
        fault("way 0 5way", 7);
        fault("way 0 5wax", 7);
        fault("way 0\t5", 5);
        FourAskOne x = new FourAskOne();
        x.row(7, 0, 3);
        due("19: elements 0", x.house(7), -6);
        due("19: elements 0", x.fault(), 0);
    }

    private static void promise19Numbers() {
        String comer = "comer 1 2 3 4 1 6";
        for (int n = 6; n < comer.length(); n++) {
            fault(comer.substring(0, n), n);
            boolean digit = n % 2 == 0;
            String behind = comer.substring(n + 1);
            fault(comer.substring(0, n) + "x" + behind, n);
            fault(comer.substring(0, n) + (digit ? "10" : " ;") + behind, digit ? n : n + 1);
        }
        fault("comer 1 2 3 4 4 6", 14);
        fault("comer 1 2 3 4 1 10", 16);
        fault("comer 100", 6);
        fault("comer 010", 8);
        fault("asker 4", 6);
        fault("asker 3 10", 8);
        fault("asker 3 9 11", 10);
        fault("asker 3 9 100", 12);
        fault("asker 3 9 10 1", 12);
        fault("way 7", 4);
        fault("way 10", 4);
        fault("way 6 100", 8);
        fault("way 6 -1", 6);
        fault("chief 3", 6);
        fault("chief 03", 6);
        fault("chief 20", 6);
        fault("chief 0 1", 7);
        fault("asker 0 0 0;chief 4;asker 0 0 0", 18);
        FourAskOne x = withAskers();
        Checks.read(x, "asker 0 0 10;chief 03", 2);
        FourAskOne empty = new FourAskOne();
        Checks.readFault(empty, "chief 0", 6);
        Checks.readFault(empty, "chief ", 6);
    }

    private static void promise19Room() {
        FourAskOne x = new FourAskOne();
        x.come(7);
        Checks.readFault(x, "comer 0 0 0 0 0 0;comer 0 0 0 0 0 0", 18);
        Checks.readFault(x, "comer 0 0 0 0 0 0;comer", 18);
        Checks.readFault(x, "comer 0 0 0 0 0 0;come", 22);
        Checks.readFault(x, "comer 0 0 0 0 0 0;comes", 22);
        Checks.readFault(x, "comer 0 0 0 0 0 0;comerx", 18);
        due("19: as it was", x.status(0), 7);
        x.come(1);
        Checks.readFault(x, "comer 9", 0);
        Checks.read(x, "asker 0 0 0;asker 0 0 0;asker 0 0 0;asker 0 0 0;chief 3", 5);
        Checks.readFault(x, "asker", 0);
        Checks.readFault(x, "aske", 4);
        Checks.readFault(x, "chief 0;asker 0 0 0", 8);
        StringBuilder ways = new StringBuilder("way 0 0");
        for (int n = 1; n < 8; n++) {
            ways.append(";way 6 99");
        }
        Checks.readFault(x, ways + ";way 0 0", ways.length() + 1);
        Checks.read(x, ways.toString(), 8);
        Checks.readFault(x, "way", 0);
        Checks.readFault(x, "wa", 2);
        Checks.read(x, "chief 2;chief 1", 2);
        due("19: first", x.status(4), 1);
    }

    private static void promise19Latest() {
        FourAskOne x = new FourAskOne();
        due("19: none yet", x.fault(), -1);
        Checks.readFault(x, "way 0 x", 6);
        due("19: shelf", x.house(8), -1);
        due("19: that came to no row", x.fault(), 6);
        due("19: nothing", x.house(0), -3);
        due("19: that came to no row", x.fault(), 6);
        x.way(0, 0);
        x.show(0, 0);
        due("19: way", x.house(0), -2);
        due("19: that came to no row", x.fault(), 6);
        x.image();
        x.restore();
        due("19: THE IMAGE is without it", x.fault(), 6);
        Checks.read(x, "way 0 0", 1);
        due("19: there was none", x.fault(), -1);
    }
}
