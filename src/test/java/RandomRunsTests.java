/** Many runs of 512 calls, each answer laid beside the Model's. Drawn by a counter of its own: always the same runs. */
public final class RandomRunsTests {
    private static final int RUNS = 3000;
    private static final int CALLS = 512;
    /** At the end of a run: the last call may be one of several calls, and status() is asked throughout. */
    private static final int ROOM_AT_END = 36;

    private long state;
    private FourAskOne x;
    private Model m;
    private int wrong;

    public static void main(String[] args) {
        RandomRunsTests tests = new RandomRunsTests();
        for (int run = 0; run < RUNS && tests.wrong < 10; run++) {
            tests.run(run);
        }
        System.out.println(RUNS + " runs of " + CALLS + " calls, " + tests.wrong + " answers not as they are due");
        if (tests.wrong != 0) {
            System.exit(1);
        }
    }

    private void run(int run) {
        state = run * 7919L + 17;
        x = new FourAskOne();
        m = new Model();
        // a third of the runs reads HOUSES mostly
        int readsPerTen = run % 3 == 0 ? 6 : 1;
        int calls = 0;
        int most = CALLS - ROOM_AT_END;
        while (calls < most) {
            calls += below(10) < readsPerTen ? text(run, most - calls) : call(run);
        }
        for (int what = 0; what < 18; what++) {
            same(run, "status(" + what + ")", x.status(what), m.status(what));
        }
    }

    private int below(int n) {
        state = state * 6364136223846793005L + 1442695040888963407L;
        return (int) Long.remainderUnsigned(state >>> 33, n);
    }

    /** Mostly from 0 to n - 1, at times one beside, at times far off. */
    private int about(int n) {
        int one = below(40);
        if (one == 0) {
            return -1;
        }
        if (one == 1) {
            return n;
        }
        if (one == 2) {
            int[] farOff = {Integer.MIN_VALUE, Integer.MAX_VALUE, n + 1, -2, 1 << 16, 160, 161};
            return farOff[below(farOff.length)];
        }
        return below(n);
    }

    private int comers() {
        return about(Math.max(1, m.status(0)));
    }

    private int askers() {
        return about(Math.max(1, m.status(1)));
    }

    private int ways() {
        return about(Math.max(1, m.status(2)));
    }

    private boolean slips() {
        return below(2) == 0;
    }

    private void same(int run, String call, long got, long want) {
        if (got != want) {
            wrong++;
            System.out.println("run " + run + ": " + call + " answered " + got + ", due is " + want);
        }
    }

    private int call(int run) {
        int which = below(51);
        if (which < 8) {
            return rows(run, which);
        }
        if (which < 20) {
            return make(run, which);
        }
        if (which < 36) {
            ask(run, which);
        } else {
            more(run, which);
        }
        return 1;
    }

    private int rows(int run, int which) {
        int s = about(8);
        int i = about(8);
        int j = about(8);
        int k = about(4);
        long v = ((long) below(1 << 30) << 40) + below(12);
        switch (which) {
            case 0:
                int n = below(3) == 0 ? about(161) : about(9);
                same(run, "row", x.row(s, k, n), m.row(s, k, n));
                return 1;
            case 1:
                same(run, "set", x.set(s, i, v), m.set(s, i, v));
                return 1;
            case 2:
                int q = about(8);
                int many = about(5);
                same(run, "copy", x.copy(s, q, i, j, many), m.copy(s, q, i, j, many));
                return 1;
            case 3:
                same(run, "element", x.element(s, i), m.element(s, i));
                return 1;
            case 4:
                int way = below(3) == 0 ? -1 : ways();
                same(run, "show", x.show(s, way), m.show(s, way));
                return 1;
            case 5:
                same(run, "holds", x.holds(s), m.holds(s));
                return 1;
            case 6:
                return ranking(run);
            default:
                return comerRow(run);
        }
    }

    private int fill(int run, int s, int sort, int[] values) {
        same(run, "row", x.row(s, sort, values.length), m.row(s, sort, values.length));
        for (int i = 0; i < values.length; i++) {
            long high = sort == 3 ? (long) below(9) << 32 : 0;
            same(run, "set", x.set(s, i, high + values[i]), m.set(s, i, high + values[i]));
        }
        return values.length + 1;
    }

    private int ranking(int run) {
        int any = about(8);
        same(run, "judge", x.judge(any), m.judge(any));
        same(run, "told", x.told(any), m.told(any));
        int n = Math.max(0, m.status(0) + (below(6) == 0 ? below(3) - 1 : 0));
        int[] values = new int[n];
        for (int i = 0; i < n; i++) {
            int j = below(i + 1);
            values[i] = values[j];
            values[j] = i;
        }
        if (n > 0 && below(4) == 0) {
            values[below(n)] = about(Math.max(1, n));
        }
        int s = below(8);
        int calls = fill(run, s, below(4), values);
        same(run, "judge", x.judge(s), m.judge(s));
        same(run, "told", x.told(s), m.told(s));
        return calls + 4;
    }

    private int comerRow(int run) {
        int[] values = new int[6 + below(3)];
        for (int i = 0; i < values.length; i++) {
            values[i] = below(30) == 0 ? about(10) : i == 4 ? below(4) : below(10);
        }
        int s = below(8);
        int calls = fill(run, s, below(4), values);
        int at = about(2);
        same(run, "comer", x.comer(s, at), m.comer(s, at));
        return calls + 1;
    }

    private int make(int run, int which) {
        int comer = comers();
        int asker = askers();
        int way = ways();
        int what = about(7);
        int v = about(11);
        switch (which) {
            case 8:
            case 9:
                int school = about(4);
                int drawn = about(11);
                same(run, "asker", x.asker(school, v, drawn), m.asker(school, v, drawn));
                break;
            case 10:
            case 11:
                int a = about(100);
                same(run, "way", x.way(what, a), m.way(what, a));
                break;
            case 12:
                same(run, "comerOf", x.comerOf(comer, what), m.comerOf(comer, what));
                break;
            case 13:
                int number = about(4);
                same(run, "askerOf", x.askerOf(asker, number), m.askerOf(asker, number));
                break;
            case 14:
                int of = about(2);
                same(run, "wayOf", x.wayOf(way, of), m.wayOf(way, of));
                break;
            case 15:
            case 16:
                same(run, "change", x.change(comer, what, v), m.change(comer, what, v));
                break;
            case 17:
                same(run, "drawn", x.drawn(asker, v), m.drawn(asker, v));
                break;
            case 18:
                same(run, "chief", x.chief(asker), m.chief(asker));
                break;
            default:
                says(run, about(8), way);
                return 3;
        }
        return 1;
    }

    /** Half the time of a WAY put there ahead, and then mostly as of its own KIND. */
    private void says(int run, int s, int way) {
        int kind = about(7);
        if (below(2) == 0) {
            same(run, "show", x.show(s, way), m.show(s, way));
            int own = m.wayOf(way, 0);
            same(run, "wayOf", x.wayOf(way, 0), own);
            kind = own < 0 || below(4) == 0 ? kind : own;
        }
        same(run, "says(" + s + ", " + kind + ")", x.says(s, kind), m.says(s, kind));
    }

    private void ask(int run, int which) {
        int comer = comers();
        int asker = askers();
        int way = ways();
        int other = ways();
        boolean slips = slips();
        int k = about(9);
        switch (which) {
            case 20:
                same(run, "shows", x.shows(way, asker, comer), m.shows(way, asker, comer));
                break;
            case 21:
                same(run, "said", x.said(way, slips, asker, comer), m.said(way, slips, asker, comer));
                break;
            case 22:
                same(run, "total", x.total(way, slips, comer), m.total(way, slips, comer));
                break;
            case 23:
                same(run, "taken", x.taken(way, slips), m.taken(way, slips));
                break;
            case 24:
                same(run, "best", x.best(), m.best());
                break;
            case 25:
                same(run, "tells", x.tells(way, slips), m.tells(way, slips));
                break;
            case 26:
                same(run, "righted", x.righted(way, k), m.righted(way, k));
                break;
            case 27:
                same(run, "head", x.head(), m.head());
                break;
            case 28:
                int tenths = about(11);
                same(run, "joined", x.joined(way, other, tenths), m.joined(way, other, tenths));
                break;
            case 29:
                same(run, "weights", x.weights(way, other), m.weights(way, other));
                break;
            case 30:
                same(run, "heads", x.heads(asker), m.heads(asker));
                break;
            case 31:
                same(run, "agree", x.agree(way), m.agree(way));
                break;
            case 32:
                same(run, "wrong", x.wrong(way, slips), m.wrong(way, slips));
                break;
            case 33:
                same(run, "lost", x.lost(way, k), m.lost(way, k));
                break;
            case 34:
                same(run, "turned", x.turned(way), m.turned(way));
                break;
            default:
                same(run, "piece", x.piece(), m.piece());
                break;
        }
    }

    private void more(int run, int which) {
        int n = about(9);
        int r = about(8);
        int v = below(1 << 30) * 5 - below(1 << 30);
        switch (which) {
            case 36:
                same(run, "comes", x.comes(n, r), m.comes(n, r));
                break;
            case 37:
                same(run, "lets", x.lets(n), m.lets(n));
                break;
            case 38:
            case 39:
            case 40:
                same(run, "come", x.come(r), m.come(r));
                break;
            case 41:
                if (below(4) == 0) {
                    same(run, "clear", x.clear(), m.clear());
                }
                break;
            case 42:
                same(run, "seed", x.seed(v), m.seed(v));
                break;
            case 43:
            case 44:
                int way = ways();
                int act = about(3);
                same(run, "act", x.act(way, act, v), m.act(way, act, v));
                break;
            case 45:
                same(run, "trace", x.trace(n), m.trace(n));
                break;
            case 46:
                same(run, "image", x.image(), m.image());
                break;
            case 47:
                same(run, "restore", x.restore(), m.restore());
                break;
            case 48:
                int s = about(8);
                same(run, "house", x.house(s), m.house(s));
                break;
            case 49:
                same(run, "fault", x.fault(), m.fault());
                break;
            default:
                int what = about(18);
                same(run, "status", x.status(what), m.status(what));
                break;
        }
    }

    private int text(int run, int most) {
        StringBuilder text = new StringBuilder();
        int items = 1 + below(6);
        for (int i = 0; i < items; i++) {
            text.append(i == 0 ? "" : ";").append(item());
        }
        int slips = below(4) == 0 ? 0 : 1 + below(2);
        for (int i = 0; i < slips && below(3) > 0; i++) {
            spoil(text);
        }
        int n = Math.min(Math.min(text.length(), 160), most - 3);
        if (n < 0) {
            return call(run);
        }
        int s = below(8);
        int[] values = new int[n];
        for (int i = 0; i < n; i++) {
            values[i] = text.charAt(i);
        }
        int calls = fill(run, s, below(4), values);
        String read = "house of '" + text.substring(0, n) + "'";
        same(run, read, x.house(s), m.house(s));
        same(run, "fault of " + read, x.fault(), m.fault());
        return calls + 2;
    }

    private String item() {
        StringBuilder item = new StringBuilder();
        int[][] most = {{9, 9, 9, 9, 3, 9}, {3, 9, 10}, {6, 99}, {Math.max(0, m.status(1) - 1)}};
        String[] words = {"comer", "asker", "way", "chief"};
        int w = below(4);
        item.append(words[w]);
        for (int bound : most[w]) {
            int number = below(60) == 0 ? bound + 1 : below(bound + 1);
            item.append(' ').append(number < 10 && below(9) == 0 ? "0" : "").append(number);
        }
        return item.toString();
    }

    private void spoil(StringBuilder text) {
        String letters = " ;0123456789comeraskwychif\u007f";
        int at = below(text.length());
        char letter = letters.charAt(below(letters.length()));
        switch (below(4)) {
            case 0:
                text.setCharAt(at, letter);
                break;
            case 1:
                text.insert(at, letter);
                break;
            case 2:
                if (text.length() > 1) {
                    text.deleteCharAt(at);
                }
                break;
            default:
                text.setLength(Math.max(1, at));
                break;
        }
    }
}
