import java.util.ArrayList;
import java.util.List;

/** Promises 20 to 39: what is shown and said, and what comes of it. */
public final class AskingTests {
    // of the small house: what a WAY SHOWS each ASKER of each COMER
    private static final int[][][] SHOWN = {
        {{210, 210, 150}, {150, 240, 90}, {150, 210, 90}},
        {{138, 138, 166}, {126, 144, 154}, {126, 138, 154}},
        {{147, 147, 164}, {129, 156, 146}, {129, 147, 146}},
        {{120, 0, 240}, {120, 0, 240}, {120, 0, 240}},
        {{260, 260, 270}, {260, 260, 270}, {260, 260, 270}},
        {{270, 210, 120}, {210, 240, 60}, {210, 210, 60}},
        {{210, 210, 60}, {210, 210, 60}, {210, 210, 60}}};
    // and what is SAID in ORDER
    private static final int[][][] SAID = {
        {{210, 210, 150}, {180, 225, 120}, {156, 213, 96}},
        {{138, 138, 166}, {132, 141, 160}, {127, 138, 155}},
        {{147, 147, 164}, {138, 151, 155}, {130, 147, 147}},
        SHOWN[3],
        SHOWN[4],
        {{270, 210, 120}, {240, 225, 90}, {216, 213, 66}},
        SHOWN[6]};

    public static void main(String[] args) {
        promise20();
        promise20Edges();
        promises21And22();
        promise21Order();
        promises20To22Refused();
        promise23();
        promise24();
        promise25();
        promise26();
        promise27();
        promises28And29();
        promise30();
        promise31();
        oneComer();
        promise32();
        promise33();
        promise34();
        promise35();
        promises36And37();
        promise38();
        promise39();
        Checks.end();
    }

    private static void due(String what, long got, long want) {
        Checks.due(what, got, want);
    }

    private static void promise20() {
        FourAskOne x = Checks.smallHouse();
        for (int way = 0; way < 7; way++) {
            for (int asker = 0; asker < 3; asker++) {
                for (int comer = 0; comer < 3; comer++) {
                    due("20: way " + way + " asker " + asker + " comer " + comer,
                            x.shows(way, asker, comer), SHOWN[way][asker][comer]);
                }
            }
        }
    }

    private static void promise20Edges() {
        FourAskOne x = new FourAskOne();
        Checks.read(x, "comer 9 8 7 9 3 9;comer 0 0 0 0 0 0;asker 3 9 0;asker 0 0 0", 4);
        Checks.read(x, "way 1 10;way 1 11;way 1 99;way 2 10;way 2 12;way 3 99;way 3 98;way 4 24", 8);
        int[] first = {360, 240, 240, 300, 240, 270, 210, 270};
        for (int way = 0; way < first.length; way++) {
            due("20: way " + way, x.shows(way, 0, 0), first[way]);
        }
        due("20: without BONUS", x.shows(0, 1, 0), 270);
        due("20: LIKE 0", x.shows(0, 1, 1), 0);
        due("20: letters", x.shows(7, 1, 1), 260);
        x.change(0, 1, 7);
        due("20: letters, SUM below a", x.shows(7, 0, 0), 260);
        FourAskOne y = new FourAskOne();
        Checks.read(y, "comer 9 8 7 9 3 9;asker 3 9 0;way 3 0;way 2 1;way 4 99;way 4 0;way 5 0;way 6 0", 8);
        int[] second = {270, 240, 260, 270, 360, 270};
        for (int way = 0; way < second.length; way++) {
            due("20: way " + way, y.shows(way, 0, 0), second[way]);
        }
    }

    private static void promises21And22() {
        FourAskOne x = Checks.smallHouse();
        for (int way = 0; way < 7; way++) {
            for (int comer = 0; comer < 3; comer++) {
                int shown = 0;
                int said = 0;
                for (int asker = 0; asker < 3; asker++) {
                    String of = " way " + way + " asker " + asker + " comer " + comer;
                    due("21: by slips," + of, x.said(way, true, asker, comer), SHOWN[way][asker][comer]);
                    due("21: in order," + of, x.said(way, false, asker, comer), SAID[way][asker][comer]);
                    shown += SHOWN[way][asker][comer];
                    said += SAID[way][asker][comer];
                }
                due("22: by slips, way " + way, x.total(way, true, comer), shown);
                due("22: in order, way " + way, x.total(way, false, comer), said);
            }
        }
    }

    private static void promise21Order() {
        FourAskOne x = Checks.smallHouse();
        x.chief(2);
        due("21: first", x.said(0, false, 2, 0), 150);
        due("21: second", x.said(0, false, 0, 0), 186);
        due("21: third", x.said(0, false, 1, 0), 168);
        due("22: in order", x.total(0, false, 0), 504);
        due("22: by slips", x.total(0, true, 0), 510);
        x.drawn(2, 10);
        due("21: nobody ahead of the first", x.said(0, false, 2, 0), 150);
        x.drawn(0, 10);
        x.drawn(1, 10);
        due("21: wholly drawn", x.said(0, false, 1, 0), 150);
        due("22: wholly drawn", x.total(0, false, 0), 450);
        due("22: nobody asks", new FourAskOne().total(0, true, 0), -1);
        FourAskOne y = new FourAskOne();
        Checks.read(y, "comer 1 1 1 1 1 1;way 0 0", 2);
        due("22: nobody asks", y.total(0, true, 0), 0);
        due("22: nobody asks", y.total(0, false, 0), 0);
    }

    private static void promises20To22Refused() {
        FourAskOne x = Checks.smallHouse();
        int[] none = {-1, 7, 0, 0, 0, 0};
        int[] nobody = {0, 0, -1, 3, 0, 0};
        int[] noComer = {0, 0, 0, 0, -1, 3};
        for (int i = 0; i < none.length; i++) {
            due("20: refused", x.shows(none[i], nobody[i], noComer[i]), -1);
            due("21: refused", x.said(none[i], true, nobody[i], noComer[i]), -1);
            due("21: refused", x.said(none[i], false, nobody[i], noComer[i]), -1);
        }
        due("22: refused", x.total(-1, true, 0), -1);
        due("22: refused", x.total(7, true, 0), -1);
        due("22: refused", x.total(0, true, -1), -1);
        due("22: refused", x.total(0, false, 3), -1);
        Checks.refused(x, 22, 0, 0, 0, 0, 0, 0);
    }

    /** By SLIPS both have 390; in ORDER the one of the less SUM has more. */
    private static FourAskOne drawnHouse() {
        FourAskOne x = new FourAskOne();
        Checks.read(x, "comer 9 0 0 5 0 0;comer 0 0 0 5 1 0;asker 1 9 0;asker 0 9 10;way 0 0", 5);
        return x;
    }

    private static void promise23() {
        FourAskOne x = Checks.smallHouse();
        int[] taken = {1, 2, 2, 2, 2, 0, 0};
        for (int way = 0; way < taken.length; way++) {
            due("23: by slips " + way, x.taken(way, true), taken[way]);
            due("23: in order " + way, x.taken(way, false), taken[way]);
        }
        FourAskOne y = drawnHouse();
        due("23: of two alike the first", y.taken(0, true), 0);
        due("23: in order", y.taken(0, false), 1);
        due("23: way", y.taken(1, true), -11);
        due("23: way", y.taken(-1, false), -11);
        Checks.refused(y, 2, 0, 0, 0, 0, 0, 0);
        y.clear();
        due("23: no comers", y.taken(0, true), -1);
        due("23: no comers", y.taken(0, false), -1);
        Checks.refused(y, 2, 0, 0, 0, 0, 0, 0);
    }

    private static void promise24() {
        FourAskOne x = Checks.smallHouse();
        due("24", x.best(), 2);
        x.change(2, 1, 3);
        due("24: of several the first", x.best(), 0);
        x.change(1, 1, 1);
        due("24", x.best(), 1);
        x.clear();
        due("24: no comers", x.best(), -5);
        Checks.refused(x, 0, 0, 0, 0, 1, 0, 0);
    }

    private static void promise25() {
        FourAskOne x = Checks.smallHouse();
        int[] tells = {-2, 2, 2, 2, 2, -2, -2};
        for (int way = 0; way < tells.length; way++) {
            due("25: by slips " + way, x.tells(way, true), tells[way]);
            due("25: in order " + way, x.tells(way, false), tells[way]);
        }
        x.change(0, 0, 7);
        due("25: two of the greatest SUM", x.tells(3, true), 2);
        x.change(0, 0, 0);
        due("25: SUMS 10, 12, 17, numbers 120, 0, 240", x.tells(3, true), 1);
        FourAskOne y = drawnHouse();
        due("25: alike", y.tells(0, true), 0);
        due("25: in order", y.tells(0, false), -1);
        due("25: way", y.tells(1, true), -1001);
        due("25: way", y.tells(-1, true), -1001);
        Checks.refused(y, 2, 0, 0, 0, 0, 0, 0);
        y.clear();
        due("25: no pairs", y.tells(0, true), 0);
    }

    private static void promise26() {
        FourAskOne x = Checks.smallHouse();
        due("26: two alike", x.righted(0, 2), 0);
        due("26: all", x.righted(0, 3), -2);
        due("26: fewer than m", x.righted(0, 8), -2);
        x.change(2, 5, 7);
        due("26: of several alike the first", x.righted(0, 2), 0);
        x.change(2, 5, 8);
        due("26: the last and the first", x.righted(0, 2), -1);
        due("26: the last and the first", x.righted(3, 2), 1);
        due("26: m", x.righted(0, 1), -1006);
        due("26: m", x.righted(0, 9), -1006);
        due("26: m", x.righted(0, Integer.MIN_VALUE), -1006);
        due("26: way", x.righted(7, 1), -1001);
        due("26: way", x.righted(-1, 2), -1001);
        Checks.refused(x, 2, 0, 0, 0, 0, 3, 0);
        x.change(0, 0, 0);
        x.change(2, 5, 0);
        due("26: the first two, SUMS 10 and 12", x.righted(0, 2), 1);
        due("26: the first two, SUMS 10 and 12", x.righted(3, 2), -1);
        due("26: by slips", drawnHouse().righted(0, 2), 0);
    }

    private static void promise27() {
        FourAskOne x = Checks.smallHouse();
        due("27: of several the first", x.head(), 1);
        x.change(2, 4, 3);
        due("27", x.head(), 1);
        FourAskOne y = new FourAskOne();
        due("27: no ways", y.head(), -5);
        Checks.refused(y, 0, 0, 0, 0, 1, 0, 0);
        Checks.read(y, "way 0 0;way 5 0;way 3 2", 3);
        due("27: no comers", y.head(), 0);
        Checks.read(y, "asker 0 0 0;comer 1 1 1 5 0 9;comer 3 2 2 2 0 4;comer 9 9 0 2 0 5", 4);
        due("27: -2, -1, -1", y.head(), 1);
        y.change(1, 2, 1);
        y.change(2, 5, 9);
        due("27: -2, 0, -2", y.head(), 1);
        y.change(0, 3, 0);
        due("27: 2, 0, -2", y.head(), 0);
        y.change(0, 2, 0);
        y.change(2, 2, 9);
        due("27: 2, 0, 3", y.head(), 2);
        FourAskOne z = drawnHouse();
        z.way(4, 0);
        due("27: by slips", z.head(), 0);
    }

    private static void promises28And29() {
        FourAskOne x = Checks.smallHouse();
        int[] tells = {2, 2, 0, 0, -2, -2, -2, -2, -2, -2, -2};
        for (int tenths = 0; tenths <= 10; tenths++) {
            due("28: " + tenths, x.joined(0, 1, tenths), tells[tenths]);
            due("28: " + tenths, x.joined(1, 0, 10 - tenths), tells[tenths]);
        }
        due("28: x", x.joined(0, 1, -1), -1006);
        due("28: x", x.joined(0, 1, 11), -1006);
        due("28: way", x.joined(7, 1, 11), -1001);
        due("28: way", x.joined(0, -1, 11), -1001);
        Checks.refused(x, 2, 0, 0, 0, 0, 2, 0);
        due("28: by slips", drawnHouse().joined(0, 0, 5), 0);
        due("29: of several the least", x.weights(0, 1), 0);
        due("29", x.weights(1, 0), 9);
        due("29: itself", x.weights(0, 0), 0);
        due("29: way", x.weights(7, 0), -1);
        due("29: way", x.weights(0, -1), -1);
        Checks.refused(x, 4, 0, 0, 0, 0, 2, 0);
        FourAskOne y = new FourAskOne();
        Checks.read(y, "asker 0 0 0;comer 1 0 0 0 0 5;comer 2 0 0 4 0 0;comer 3 0 0 1 0 4;way 0 0;way 5 0", 6);
        due("28: 10 to 0", y.joined(0, 1, 10), 1);
        due("28: 0 to 10", y.joined(0, 1, 0), -1);
        due("29: 0, 120, 30 and 150, 0, 120 are 600, 720, 660 by 6", y.weights(0, 1), 6);
        weighs(10, "comer 1 0 0 0 0 9;comer 2 0 0 1 0 0;comer 3 0 0 2 0 0");
        weighs(1, "comer 1 0 0 0 0 5;comer 2 0 0 1 0 5;comer 3 0 0 2 0 5");
        weighs(0, "comer 1 0 0 0 0 0;comer 2 0 0 1 0 1;comer 3 0 0 2 0 2");
        weighs(10, "comer 1 0 0 5 0 9;comer 2 0 0 5 0 5;comer 3 0 0 5 0 0");
        weighs(0, "comer 1 0 0 9 0 9;comer 2 0 0 5 0 5;comer 3 0 0 0 0 0");
    }

    /** The x between LOOKS and MARKS, for one ASKER without BONUS. */
    private static void weighs(int x, String comers) {
        FourAskOne y = new FourAskOne();
        Checks.read(y, comers + ";asker 0 0 0;way 0 0;way 5 0", 6);
        due("29: " + comers, y.weights(0, 1), x);
    }

    private static void promise30() {
        FourAskOne x = Checks.smallHouse();
        headsAre(x, 16000, 6000, 8000);
        x.chief(2);
        headsAre(x, 9000, 5000, 16000);
        due("30: asker", x.heads(3), -1);
        due("30: asker", x.heads(-1), -1);
        Checks.refused(x, 2, 0, 0, 0, 0, 0, 0);
        FourAskOne y = new FourAskOne();
        Checks.read(y, "asker 0 0 3;asker 0 0 7;asker 0 0 9;asker 0 0 1", 4);
        headsAre(y, 23930, 5970, 1100, 9000);
        Checks.read(y, "chief 3", 1);
        y.drawn(0, 10);
        y.drawn(1, 10);
        y.drawn(2, 10);
        headsAre(y, 0, 0, 0, 40000);
        FourAskOne z = new FourAskOne();
        z.asker(0, 0, 10);
        headsAre(z, 10000);
    }

    private static void headsAre(FourAskOne x, int... heads) {
        for (int asker = 0; asker < heads.length; asker++) {
            due("30: asker " + asker, x.heads(asker), heads[asker]);
        }
    }

    private static void promise31() {
        FourAskOne x = Checks.smallHouse();
        int[] agree = {2, 3, 1, 3, 3, 2, 3};
        for (int way = 0; way < agree.length; way++) {
            due("31: way " + way, x.agree(way), agree[way]);
        }
        FourAskOne y = drawnHouse();
        due("31: taken in order, with one of two", y.agree(0), 1);
        y.change(1, 3, 9);
        due("31: both", y.agree(0), 2);
        y.change(1, 3, 4);
        y.change(0, 4, 2);
        due("31: by what is shown alone", y.agree(0), 1);
        FourAskOne z = new FourAskOne();
        Checks.read(z, "comer 0 0 0 5 1 0;comer 0 0 0 5 2 0;asker 2 9 0;asker 1 9 10;asker 1 9 10;way 0 0", 6);
        due("31: by slips the first would be taken, and two agree", z.agree(0), 1);
        y.clear();
        due("31: no comers", y.agree(0), -5);
        due("31: way", y.agree(1), -1);
        due("31: way", y.agree(-1), -1);
        Checks.refused(y, 2, 0, 0, 0, 1, 0, 0);
    }

    /** Promises 23, 24, 31 and 32 with one COMER alone. */
    private static void oneComer() {
        FourAskOne x = new FourAskOne();
        Checks.read(x, "comer 1 2 3 4 1 6;way 0 0;asker 0 0 0", 3);
        due("23: one comer", x.taken(0, false), 0);
        due("24: one comer", x.best(), 0);
        due("25: one comer", x.tells(0, false), 0);
        due("31: one comer", x.agree(0), 1);
        due("32: one comer", x.wrong(0, true), 0);
        due("33: one comer", x.lost(0, 1), 0);
        due("34: one comer", x.turned(0), 1);
    }

    private static void promise32() {
        FourAskOne x = Checks.smallHouse();
        int[] wrong = {5, 0, 0, 0, 0, 5, 5};
        for (int way = 0; way < wrong.length; way++) {
            due("32: by slips " + way, x.wrong(way, true), wrong[way]);
            due("32: in order " + way, x.wrong(way, false), wrong[way]);
        }
        FourAskOne y = drawnHouse();
        due("32: by slips", y.wrong(0, true), 0);
        due("32: in order", y.wrong(0, false), 9);
        y.clear();
        due("32: no comers", y.wrong(0, true), -5);
        due("32: way", y.wrong(1, true), -1);
        due("32: way", y.wrong(-1, true), -1);
        Checks.refused(y, 2, 0, 0, 0, 1, 0, 0);
    }

    private static void promise33() {
        FourAskOne x = Checks.smallHouse();
        int[] lost = {5, 10, 10};
        for (int k = 1; k <= 3; k++) {
            due("33: k " + k, x.lost(0, k), lost[k - 1]);
        }
        due("33", x.lost(3, 1), 0);
        due("33", x.lost(3, 2), 5);
        x.change(1, 0, 0);
        due("33: of several the first", x.lost(6, 1), 5);
        due("33: of several the first", x.lost(6, 2), 19);
        x.change(0, 0, 0);
        due("33: of several the first", x.lost(6, 1), 7);
        due("33: beyond", x.lost(0, 4), -5);
        due("33: beyond ahead of wrong", x.lost(0, 9), -5);
        due("33: wrong", x.lost(0, 0), -6);
        due("33: wrong", x.lost(0, -1), -6);
        due("33: way", x.lost(7, 9), -1);
        due("33: way", x.lost(-1, 0), -1);
        Checks.refused(x, 2, 0, 0, 0, 2, 2, 0);
        x.clear();
        due("33: no comers", x.lost(0, 1), -5);
        due("33: no comers, wrong", x.lost(0, 0), -6);
        FourAskOne y = drawnHouse();
        due("33: by slips", y.lost(0, 1), 0);
        y.come(8);
        due("33: all eight", y.lost(0, 8), 8 * y.comerOf(y.best(), 6) - y.status(3));
    }

    private static void promise34() {
        FourAskOne x = Checks.smallHouse();
        int[] turned = {2, 4, 6, 4, 4, 3, 1};
        for (int way = 0; way < turned.length; way++) {
            due("34: way " + way, x.turned(way), turned[way]);
        }
        x.chief(2);
        due("34: by slips in any ORDER", x.turned(5), 3);
        due("34: way", x.turned(7), -1);
        due("34: way", x.turned(-1), -1);
        Checks.refused(x, 2, 0, 0, 0, 0, 0, 0);
        x.clear();
        due("34: no comers", x.turned(0), 0);
        FourAskOne y = new FourAskOne();
        Checks.read(y, "comer 0 0 0 0 0 0;comer 9 9 9 9 0 9;way 0 0", 3);
        due("34: nobody asks", y.turned(0), 0);
        y.asker(0, 0, 0);
        due("34: the only one away", y.turned(0), 1);
        y.come(6);
        y.change(7, 3, 9);
        y.change(7, 4, 3);
        y.asker(3, 9, 0);
        due("34: bits", y.turned(0) & 0x180, 128);
    }

    private static void promise35() {
        FourAskOne x = new FourAskOne();
        due("35: no comers", x.piece(), 0);
        x = Checks.smallHouse();
        due("35: -2, 2, 2", x.piece(), 1);
        x.change(1, 1, 9);
        x.change(1, 0, 1);
        x.change(1, 2, 2);
        due("35: -1, 0, 2", x.piece(), 2);
        x.change(0, 0, 0);
        x.change(0, 2, 8);
        due("35: SUMS 12, 12, 17: 1, 0, 1", x.piece(), 0);
        pieceIs(1, "comer 5 0 0 0 0 0;comer 2 2 2 9 0 9", 2);
        pieceIs(0, "comer 1 1 1 0 0 0;comer 2 2 2 9 0 9", 2);
        // the LOOKS and MARKS tell 3, the LINES -2, 0, 2
        pieceIs(2, "comer 3 0 0 1 0 1;comer 0 4 0 2 0 2;comer 0 0 5 3 0 3", 3);
    }

    private static void pieceIs(int piece, String comers, int count) {
        FourAskOne x = new FourAskOne();
        Checks.read(x, comers, count);
        due("35: " + comers, x.piece(), piece);
    }

    private static void promises36And37() {
        for (int n = 1; n <= 8; n++) {
            List<int[]> orders = new ArrayList<>();
            allOrders(new int[n], 0, 0, orders);
            int best = 0;
            int lets = 0;
            FourAskOne x = new FourAskOne();
            for (int r = 0; r < n; r++) {
                int won = 0;
                for (int[] order : orders) {
                    won += takenAsTheyCome(order, r) == n ? 1 : 0;
                }
                due("36: n " + n + " r " + r, x.comes(n, r), won);
                if (won > best) {
                    best = won;
                    lets = r;
                }
            }
            due("36: r", x.comes(n, n), -6);
            due("36: r", x.comes(n, -1), -6);
            due("37: n " + n, x.lets(n), lets);
            Checks.refused(x, 0, 0, 0, 0, 0, 2, 0);
        }
        FourAskOne x = new FourAskOne();
        int[] wrong = {0, -1, 9, Integer.MAX_VALUE, Integer.MIN_VALUE};
        for (int n : wrong) {
            due("36: n", x.comes(n, 0), -6);
            due("37: n", x.lets(n), -6);
        }
        Checks.refused(x, 0, 0, 0, 0, 0, 10, 0);
    }

    private static int takenAsTheyCome(int[] order, int r) {
        int greatest = 0;
        for (int i = 0; i < order.length; i++) {
            if (i >= r && order[i] > greatest) {
                return order[i];
            }
            greatest = Math.max(greatest, order[i]);
        }
        return order[order.length - 1];
    }

    private static void allOrders(int[] order, int at, int used, List<int[]> into) {
        if (at == order.length) {
            into.add(order.clone());
            return;
        }
        for (int one = 1; one <= order.length; one++) {
            if ((used & 1 << one) == 0) {
                order[at] = one;
                allOrders(order, at + 1, used | 1 << one, into);
            }
        }
    }

    private static void judged(FourAskOne x, int place, long... ranking) {
        Checks.row(x, 0, 3, ranking);
        due("38: place", x.judge(0), place);
        if (place != -1) {
            due("39: may not be", x.told(0), -1006);
        }
    }

    private static void promise38() {
        FourAskOne x = Checks.smallHouse();
        judged(x, -1, 2, 0, 1);
        judged(x, -1, 0x9_0000_0002L, 0, 0x1_0000_0001L);
        judged(x, 0);
        judged(x, 2, 2, 0);
        judged(x, 3, 2, 0, 1, 0);
        judged(x, 3, 2, 0, 1, 9, 9);
        judged(x, 1, 2, 3, 1);
        judged(x, 0, -1, 3, 1);
        judged(x, 1, 2, 2, 1);
        judged(x, 2, 2, 1, 2);
        judged(x, 1, 2, 32, 1);
        judged(x, 1, 2, 0x8000_0000L, 1);
        judged(x, 1, 0, 0);
        Checks.refused(x, 0, 0, 0, 0, 0, 11, 0);
        x.clear();
        judged(x, -1);
        due("39: nobody", x.told(0), 0);
        judged(x, 0, 0);
        x.show(1, 0);
        due("38: shelf", x.judge(8), -1);
        due("38: shelf", x.judge(-1), -1);
        due("38: way", x.judge(1), -2);
        due("38: nothing", x.judge(2), -3);
        Checks.refused(x, 2, 1, 1, 0, 0, 12, 0);
    }

    private static void promise39() {
        FourAskOne x = Checks.smallHouse();
        int[][] rankings = {{2, 0, 1}, {2, 1, 0}, {0, 2, 1}, {1, 2, 0}, {0, 1, 2}, {1, 0, 2}};
        int[] tells = {2, 2, 0, 0, -2, -2};
        for (int i = 0; i < tells.length; i++) {
            Checks.row(x, 0, i % 4, rankings[i][0], rankings[i][1], rankings[i][2]);
            due("39: ranking " + i, x.told(0), tells[i]);
        }
        x.change(1, 0, 8);
        Checks.row(x, 0, 2, 0, 1, 2);
        due("39: SUMS 12, 11, 17", x.told(0), -1);
        Checks.row(x, 0, 2, 2, 0, 1);
        due("39: SUMS 12, 11, 17", x.told(0), 3);
        x.set(0, 0, 3);
        due("39: may not be", x.told(0), -1006);
        x.show(1, 0);
        due("39: shelf", x.told(8), -1001);
        due("39: shelf", x.told(-1), -1001);
        due("39: way", x.told(1), -1002);
        due("39: nothing", x.told(2), -1003);
        Checks.refused(x, 2, 1, 1, 0, 0, 1, 0);
    }
}
