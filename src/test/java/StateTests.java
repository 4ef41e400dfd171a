/** Promises 40 to 47: draws, acts of WAYS, THE IMAGE, and what is counted. */
public final class StateTests {
    public static void main(String[] args) {
        promise40();
        promise40Room();
        promise41();
        promise42();
        promise43();
        promise43Wrapping();
        promise44();
        promise45();
        promise46();
        promise46Again();
        promise46Shelves();
        promise47();
        promise47Refusals();
        oneObjectDoesNotTouchAnother();
        Checks.end();
    }

    private static void due(String what, long got, long want) {
        Checks.due(what, got, want);
    }

    private static long nextSeed(long seed) {
        return (seed * 1103515245L + 12345L) & 0xFFFFFFFFL;
    }

    /** Looks at COMERS from one on, all drawn one behind the other from a SEED; answers the SEED behind them. */
    private static long drawn(FourAskOne x, long seed, int from, int to) {
        int[] below = {10, 10, 10, 10, 4, 10};
        long now = seed & 0xFFFFFFFFL;
        for (int comer = from; comer < to; comer++) {
            for (int what = 0; what < 6; what++) {
                now = nextSeed(now);
                due("40: number " + what + " of " + comer, x.comerOf(comer, what), (now >> 16) % below[what]);
            }
        }
        due("40: SEED", x.status(5), (int) now);
        return now;
    }

    private static void promise40() {
        FourAskOne x = new FourAskOne();
        due("40", x.come(3), 3);
        due("40: the first draw: 1103527590 by 65536 is 16838", x.comerOf(0, 0), 8);
        long seed = drawn(x, 1, 0, 3);
        due("40", x.come(1), 1);
        drawn(x, seed, 3, 4);
        int[] wrong = {0, -1, 9, Integer.MAX_VALUE, Integer.MIN_VALUE};
        for (int n : wrong) {
            due("40: n", x.come(n), -6);
        }
        due("40: none more", x.status(0), 4);
        Checks.refused(x, 0, 0, 0, 0, 0, 5, 0);
        x.clear();
        x.seed(-987654321);
        due("40", x.come(8), 8);
        drawn(x, -987654321, 0, 8);
    }

    private static void promise40Room() {
        FourAskOne x = new FourAskOne();
        x.come(5);
        x.seed(12);
        due("40: room for three", x.come(8), 3);
        drawn(x, 12, 5, 8);
        int seed = x.status(5);
        due("40: no room", x.come(1), 0);
        due("40: nothing drawn", x.status(5), seed);
        Checks.refused(x, 0, 0, 0, 0, 0, 0, 0);
    }

    private static void promise41() {
        FourAskOne x = Checks.smallHouse();
        due("41", x.clear(), 3);
        due("41", x.clear(), 0);
        due("41", x.status(0), 0);
        due("41", x.status(3), 0);
        due("41: none there", x.comerOf(0, 0), -5);
        due("41: askers stay", x.status(1), 3);
        due("41: ways stay", x.status(2), 7);
        x.come(8);
        due("41", x.clear(), 8);
        due("41: room again", x.come(8), 8);
        Checks.row(x, 0, 0, 1, 1, 1, 1, 1, 1);
        x.clear();
        due("41: numbers from 0 on", x.comer(0, 0), 0);
    }

    private static void promise42() {
        FourAskOne x = new FourAskOne();
        due("42: 1 at first", x.seed(Integer.MIN_VALUE), 1);
        due("42", x.seed(0), Integer.MIN_VALUE);
        due("42", x.seed(-1), 0);
        due("42", x.status(5), -1);
        x.seed(0);
        x.come(1);
        drawn(x, 0, 0, 1);
        Checks.refused(x, 0, 0, 0, 0, 0, 0, 0);
    }

    private static void acted(FourAskOne x, int way, int act, int v, long answer, int... bodies) {
        String what = "way " + way + ", act " + act;
        due("43: " + what, x.act(way, act, v), answer);
        for (int i = 0; i < bodies.length; i++) {
            due("44: body " + i + " of " + what, x.trace(i), bodies[i]);
        }
        due("44: no more of " + what, x.trace(bodies.length), -1);
        due("47: bodies of " + what, x.status(6), bodies.length);
    }

    private static void promise43() {
        FourAskOne x = Checks.smallHouse();
        acted(x, 0, 0, 5, 5, 10);
        acted(x, 0, 1, 5, 10, 11, 10);
        acted(x, 0, 2, 5, -22, 12, 11, 10, 10);
        acted(x, 1, 0, 5, 19, 20, 10);
        acted(x, 1, 1, 5, 38, 11, 20, 10);
        acted(x, 1, 2, 5, 32, 12, 11, 20, 10, 20, 10);
        acted(x, 2, 0, 5, 25, 20, 10);
        acted(x, 2, 1, 5, 150, 30, 11, 20, 10);
        acted(x, 2, 2, 5, 145, 12, 30, 11, 20, 10, 20, 10);
        acted(x, 3, 0, 5, 8, 10);
        acted(x, 3, 1, 5, 18, 40, 11, 10);
        acted(x, 3, 2, 5, 16, 41, 12, 40, 11, 10, 10);
        acted(x, 4, 0, 5, 9, 10);
        acted(x, 4, 1, 5, 18, 11, 10);
        acted(x, 4, 2, 5, 18, 50, 12, 11, 10, 10);
        acted(x, 5, 0, 5, 20, 60, 10);
        acted(x, 5, 1, 5, 40, 11, 60, 10);
        acted(x, 5, 2, 5, -104, 12, 11, 60, 10, 60, 10);
        acted(x, 6, 0, 5, 22, 60, 10);
        acted(x, 6, 1, 5, -352, 71, 11, 60, 10);
        acted(x, 6, 2, 5, 501, 70, 12, 71, 11, 60, 10, 60, 10);
        acted(x, 7, 2, 5, 0);
        acted(x, 0, 0, 5, 5, 10);
        acted(x, 0, 3, 5, 0);
        acted(x, 0, 0, 5, 5, 10);
        acted(x, -1, 0, 5, 0);
        acted(x, 0, 0, 5, 5, 10);
        acted(x, 0, -1, 5, 0);
        Checks.refused(x, 0, 0, 0, 0, 0, 0, 0);
    }

    private static void promise43Wrapping() {
        FourAskOne x = Checks.smallHouse();
        int most = Integer.MAX_VALUE;
        int least = Integer.MIN_VALUE;
        acted(x, 1, 0, most, least + 13, 20, 10);
        acted(x, 0, 1, most, -2, 11, 10);
        acted(x, 2, 1, least, 120, 30, 11, 20, 10);
        acted(x, 3, 1, most, 6, 40, 11, 10);
        acted(x, 5, 0, least, 10, 60, 10);
        acted(x, 6, 1, least, -372, 71, 11, 60, 10);
        acted(x, 6, 2, 0, 463, 70, 12, 71, 11, 60, 10, 60, 10);
        FourAskOne y = new FourAskOne();
        Checks.read(y, "way 6 3", 1);
        acted(y, 0, 2, 5, 9, 70, 12, 71, 11, 60, 10, 60, 10);
        acted(y, 0, 2, 4, 3, 70, 12, 71, 11, 60, 10, 60, 10);
    }

    private static void promise44() {
        FourAskOne x = new FourAskOne();
        due("44: none yet", x.trace(0), -1);
        x.way(1, 0);
        x.act(0, 0, 1);
        due("44", x.trace(0), 20);
        due("44", x.trace(1), 10);
        due("44", x.trace(2), -1);
        due("44", x.trace(-1), -1);
        due("44", x.trace(20), -1);
        due("44", x.trace(Integer.MAX_VALUE), -1);
        due("44", x.trace(Integer.MIN_VALUE), -1);
        x.way(9, 9);
        x.image();
        x.clear();
        x.restore();
        due("44: until the next act", x.trace(0), 20);
        due("44: until the next act", x.status(6), 2);
    }

    private static void promise45() {
        FourAskOne x = Checks.smallHouse();
        String was = Checks.seen(x);
        due("45", x.image(), 7);
        Checks.same("45: nothing is changed", Checks.seen(x), was);
        x.way(0, 0);
        due("45: anew", x.image(), 8);
        due("45", x.restore(), 8);
        due("45: no ways", new FourAskOne().image(), 0);
    }

    private static void promise46() {
        FourAskOne x = new FourAskOne();
        due("46: there is none", x.restore(), -6);
        Checks.refused(x, 0, 0, 0, 0, 0, 1, 0);
        x.image();
        due("46: of nothing", x.restore(), 0);
        x = imaged();
        String was = Checks.seen(x);
        x.change(0, 0, 9);
        x.change(2, 5, 9);
        x.come(2);
        x.drawn(0, 9);
        x.asker(0, 0, 0);
        x.chief(3);
        x.way(6, 6);
        due("46", x.restore(), 7);
        Checks.same("46: all is as it was", Checks.seen(x), was);
        due("46: numbers go on", x.way(4, 4), 7);
    }

    private static FourAskOne imaged() {
        FourAskOne x = Checks.smallHouse();
        x.chief(1);
        x.seed(4711);
        x.image();
        return x;
    }

    private static void promise46Again() {
        FourAskOne x = imaged();
        String was = Checks.seen(x);
        x.clear();
        x.change(0, 0, 9);
        due("46: again", x.restore(), 7);
        Checks.read(x, "comer 1 1 1 1 1 1;asker 1 1 1;way 1 1;chief 3", 4);
        due("46: again", x.restore(), 7);
        Checks.same("46: all is as it was", Checks.seen(x), was);
        due("46: refusals are kept", x.status(11), 1);
    }

    private static void promise46Shelves() {
        FourAskOne x = new FourAskOne();
        x.way(1, 7);
        x.way(2, 8);
        x.image();
        x.way(3, 9);
        Checks.row(x, 0, 1, 5, 6);
        x.show(1, 0);
        x.show(2, 1);
        x.show(3, 2);
        due("46", x.restore(), 2);
        due("46: a row stays", x.holds(0), 101);
        due("46: a row stays", x.element(0, 1), 6);
        due("46: a way there", x.holds(1), 0);
        due("46: a way there", x.holds(2), 1);
        due("46: no such way", x.holds(3), -1);
        due("46: nothing", x.says(3, 0), -3);
        x.way(4, 3);
        due("46: it stays nothing", x.holds(3), -1);
        FourAskOne y = new FourAskOne();
        y.image();
        y.way(0, 1);
        for (int s = 0; s < 8; s++) {
            y.show(s, 0);
        }
        y.restore();
        y.way(6, 2);
        for (int s = 0; s < 8; s++) {
            due("46: nothing", y.holds(s), -1);
        }
        due("46: the new way", y.wayOf(0, 1), 2);
    }

    private static void promise47() {
        FourAskOne x = Checks.smallHouse();
        int[] due = {3, 3, 7, 41, 0, 1, 0};
        for (int what = 0; what < due.length; what++) {
            due("47: status " + what, x.status(what), due[what]);
        }
        int[] others = {-1, 7, 8, 9, 10, 18, 19, Integer.MAX_VALUE, Integer.MIN_VALUE};
        for (int what : others) {
            due("47: status " + what, x.status(what), -1);
        }
        x.chief(2);
        due("47: first", x.status(4), 2);
        FourAskOne y = new FourAskOne();
        y.asker(0, 0, 0);
        due("47: the only one", y.status(4), 0);
    }

    private static void promise47Refusals() {
        FourAskOne x = new FourAskOne();
        for (int refusal = 1; refusal <= 7; refusal++) {
            for (int n = 0; n < refusal; n++) {
                due("47", refuse(x, refusal), -refusal);
            }
        }
        Checks.refused(x, 1, 2, 3, 4, 5, 6, 7);
        x.taken(0, true);
        x.tells(0, true);
        x.told(9);
        due("47: far ones too", x.status(11), 4);
        x.told(7);
        due("47: far ones too", x.status(13), 4);
        x.image();
        x.restore();
        due("47: THE IMAGE is without them", x.status(11), 4);
    }

    private static int refuse(FourAskOne x, int refusal) {
        switch (refusal) {
            case 1:
                return x.chief(0);
            case 2:
                x.row(0, 0, 1);
                x.row(1, 1, 1);
                return x.copy(0, 1, 0, 0, 1);
            case 3:
                return x.set(7, 0, 0);
            case 4:
                return x.row(0, 0, -1);
            case 5:
                return x.best();
            case 6:
                return x.lets(0);
            default:
                return x.row(0, 0, 161);
        }
    }

    private static void oneObjectDoesNotTouchAnother() {
        FourAskOne x = Checks.smallHouse();
        String was = Checks.seen(x);
        FourAskOne y = new FourAskOne();
        Checks.read(y, "comer 9 9 9 9 3 9;asker 0 0 0;way 6 1", 3);
        y.act(0, 2, 3);
        y.image();
        y.restore();
        y.seed(8);
        y.best();
        y.chief(9);
        Checks.same("1: another object", Checks.seen(x), was);
        due("1: another object", x.status(6), 0);
    }
}
