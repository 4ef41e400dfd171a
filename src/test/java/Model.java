import java.math.BigDecimal;
import java.math.RoundingMode;
import java.util.ArrayList;
import java.util.Arrays;
import java.util.List;
import java.util.regex.Matcher;
import java.util.regex.Pattern;

/**
 * The document a second time, in other ways than the program's: lists, whole copies, patterns, orders tried one by
 * one. RandomRunsTests lays it beside the program.
 */
final class Model {
    private static final int[] PARENT = {-1, 0, 1, 0, 0, 0, 5};
    private static final String[] ITEMS = {"comer( \\d{1,2}){6}", "asker( \\d{1,2}){3}", "way( \\d{1,2}){2}",
        "chief( \\d{1,2})"};

    /** What THE IMAGE keeps. */
    private static final class State {
        List<List<Integer>> comers = new ArrayList<>();
        List<List<Integer>> askers = new ArrayList<>();
        List<List<Integer>> ways = new ArrayList<>();
        List<Integer> order = new ArrayList<>();
        int seed = 1;

        State copy() {
            State c = new State();
            comers.forEach(one -> c.comers.add(new ArrayList<>(one)));
            askers.forEach(one -> c.askers.add(new ArrayList<>(one)));
            ways.forEach(one -> c.ways.add(new ArrayList<>(one)));
            c.order.addAll(order);
            c.seed = seed;
            return c;
        }
    }

    private State now = new State();
    private State image = null;
    private final Object[] shelves = new Object[8];
    private final int[] sorts = new int[8];
    private final int[] refusals = new int[8];
    private int fault = -1;
    private List<Integer> trace = new ArrayList<>();

    private int no(int refusal) {
        refusals[refusal]++;
        return -refusal;
    }

    private int far(int refusal) {
        refusals[refusal]++;
        return -1000 - refusal;
    }

    private static boolean in(int v, int from, int to) {
        return from <= v && v <= to;
    }

    private boolean shelf(int s) {
        return in(s, 0, 7);
    }

    private int noRow(int s) {
        if (!shelf(s)) {
            return 1;
        }
        return shelves[s] == null ? 3 : shelves[s] instanceof Integer ? 2 : 0;
    }

    private long[] rowAt(int s) {
        return (long[]) shelves[s];
    }

    private boolean isWay(int way) {
        return in(way, 0, now.ways.size() - 1);
    }

    private boolean isComer(int comer) {
        return in(comer, 0, now.comers.size() - 1);
    }

    private boolean isAsker(int asker) {
        return in(asker, 0, now.askers.size() - 1);
    }

    private int kind(int way) {
        return now.ways.get(way).get(0);
    }

    private int a(int way) {
        return now.ways.get(way).get(1);
    }

    private static int sum(List<Integer> comer) {
        return comer.get(0) + comer.get(1) + comer.get(2);
    }

    private List<Integer> sums() {
        List<Integer> sums = new ArrayList<>();
        now.comers.forEach(comer -> sums.add(sum(comer)));
        return sums;
    }

    private static boolean comerMayBe(List<Integer> c) {
        for (int i = 0; i < 6; i++) {
            if (!in(c.get(i), 0, i == 4 ? 3 : 9)) {
                return false;
            }
        }
        return true;
    }

    int row(int s, int sort, int n) {
        if (!shelf(s)) {
            return no(1);
        }
        if (n < 0) {
            return no(4);
        }
        if (!in(sort, 0, 3)) {
            return no(6);
        }
        if (n > 160) {
            return no(7);
        }
        shelves[s] = new long[n];
        sorts[s] = sort;
        return 1;
    }

    int set(int s, int i, long v) {
        if (noRow(s) != 0) {
            return no(noRow(s));
        }
        if (!in(i, 0, rowAt(s).length - 1)) {
            return no(5);
        }
        int off = 64 - (8 << sorts[s]);
        rowAt(s)[i] = v << off >> off;
        return 1;
    }

    int copy(int p, int q, int i, int j, int n) {
        if (!shelf(p) || !shelf(q)) {
            return no(1);
        }
        if (noRow(p) == 2 || noRow(q) == 2 || (noRow(p) == 0 && noRow(q) == 0 && sorts[p] != sorts[q])) {
            return no(2);
        }
        if (shelves[p] == null || shelves[q] == null) {
            return no(3);
        }
        if (n < 0) {
            return no(4);
        }
        if (i < 0 || j < 0 || (long) i + n > rowAt(p).length || (long) j + n > rowAt(q).length) {
            return no(5);
        }
        long[] were = rowAt(p).clone();
        for (int k = 0; k < n; k++) {
            rowAt(q)[j + k] = were[i + k];
        }
        return 1;
    }

    long element(int s, int i) {
        return noRow(s) == 0 && in(i, 0, rowAt(s).length - 1) ? rowAt(s)[i] : 0;
    }

    int show(int s, int way) {
        if (!shelf(s) || (way != -1 && !isWay(way))) {
            return no(1);
        }
        shelves[s] = way == -1 ? null : Integer.valueOf(way);
        return way == -1 ? 0 : 1;
    }

    int holds(int s) {
        if (!shelf(s) || shelves[s] == null) {
            return -1;
        }
        return shelves[s] instanceof Integer ? (Integer) shelves[s] : 100 + sorts[s];
    }

    int says(int s, int kind) {
        if (!shelf(s) || !in(kind, 0, 6)) {
            return no(1);
        }
        if (shelves[s] == null) {
            return no(3);
        }
        if (!(shelves[s] instanceof Integer)) {
            return no(2);
        }
        int way = (Integer) shelves[s];
        int up = kind(way);
        while (up != -1 && up != kind) {
            up = PARENT[up];
        }
        if (up == -1) {
            return no(2);
        }
        switch (kind) {
            case 0:
                return a(way);
            case 3:
                return a(way) % 3;
            case 4:
                return (int) sums().stream().filter(sum -> sum < a(way)).count();
            case 5:
                return greatest(column(5));
            case 6:
                return greatest(totals(way, true, 5)) != greatest(totals(way, true, 6)) ? 1 : 0;
            default:
                return tenths(kind(way), a(way));
        }
    }

    private static int tenths(int kind, int a) {
        return kind == 2 ? a % 11 / 2 : a % 11;
    }

    private List<Integer> column(int what) {
        List<Integer> column = new ArrayList<>();
        now.comers.forEach(comer -> column.add(comer.get(what)));
        return column;
    }

    private static int greatest(List<Integer> numbers) {
        return numbers.isEmpty() ? -1 : numbers.indexOf(numbers.stream().max(Integer::compare).get());
    }

    int comer(int s, int i) {
        if (noRow(s) != 0) {
            return no(noRow(s));
        }
        if (i < 0 || (long) i + 6 > rowAt(s).length) {
            return no(5);
        }
        List<Integer> c = new ArrayList<>();
        for (int k = 0; k < 6; k++) {
            c.add((int) rowAt(s)[i + k]);
        }
        if (!comerMayBe(c)) {
            return no(6);
        }
        if (now.comers.size() == 8) {
            return no(7);
        }
        now.comers.add(c);
        return now.comers.size() - 1;
    }

    int asker(int school, int like, int drawn) {
        if (!in(school, 0, 3) || !in(like, 0, 9) || !in(drawn, 0, 10)) {
            return no(6);
        }
        if (now.askers.size() == 4) {
            return no(7);
        }
        now.order.add(now.askers.size());
        now.askers.add(new ArrayList<>(List.of(school, like, drawn)));
        return now.askers.size() - 1;
    }

    int way(int kind, int a) {
        if (!in(kind, 0, 6)) {
            return no(1);
        }
        if (!in(a, 0, 99)) {
            return no(6);
        }
        if (now.ways.size() == 8) {
            return no(7);
        }
        now.ways.add(List.of(kind, a));
        return now.ways.size() - 1;
    }

    int comerOf(int comer, int what) {
        if (!isComer(comer) || !in(what, 0, 6)) {
            return no(5);
        }
        return what == 6 ? sum(now.comers.get(comer)) : now.comers.get(comer).get(what);
    }

    int askerOf(int asker, int what) {
        if (!isAsker(asker) || !in(what, 0, 3)) {
            return no(5);
        }
        return what == 3 ? now.order.indexOf(asker) : now.askers.get(asker).get(what);
    }

    int wayOf(int way, int what) {
        return isWay(way) && in(what, 0, 1) ? now.ways.get(way).get(what) : no(5);
    }

    int change(int comer, int what, int v) {
        if (!isComer(comer)) {
            return no(1);
        }
        if (!in(what, 0, 5)) {
            return no(5);
        }
        return in(v, 0, what == 4 ? 3 : 9) ? now.comers.get(comer).set(what, v) : no(6);
    }

    int drawn(int asker, int v) {
        if (!isAsker(asker)) {
            return no(1);
        }
        return in(v, 0, 10) ? now.askers.get(asker).set(2, v) : no(6);
    }

    int chief(int asker) {
        if (!isAsker(asker)) {
            return no(1);
        }
        int was = now.order.indexOf(asker);
        now.order.remove(was);
        now.order.add(0, asker);
        return was;
    }

    int house(int s) {
        if (noRow(s) != 0) {
            return no(noRow(s));
        }
        StringBuilder text = new StringBuilder();
        for (long v : rowAt(s)) {
            int letter = (int) v;
            text.append(in(letter, 1, 126) ? (char) letter : '#');
        }
        State was = now.copy();
        fault = -1;
        int items = readAll(text.toString());
        if (fault == -1) {
            return items;
        }
        now = was;
        return no(6);
    }

    private int readAll(String text) {
        int items = 0;
        int from = 0;
        while (true) {
            int to = text.indexOf(';', from);
            String item = text.substring(from, to == -1 ? text.length() : to);
            int place = readItem(item);
            if (place != -1) {
                fault = from + place;
                return 0;
            }
            items++;
            if (to == -1) {
                return items;
            }
            from = to + 1;
        }
    }

    /** -1 when the item stands; else the place in it that can't. */
    private int readItem(String item) {
        String[] words = {"comer", "asker", "way", "chief"};
        int[] rooms = {8 - now.comers.size(), 4 - now.askers.size(), 8 - now.ways.size(), 1};
        for (int w = 0; w < 4; w++) {
            if (item.startsWith(words[w])) {
                if (rooms[w] == 0) {
                    return 0;
                }
                int place = firstFault(item, w);
                if (place == -1) {
                    tell(item.substring(words[w].length() + 1).split(" "), w);
                }
                return place;
            }
        }
        int place = item.length();
        while (place > 0) {
            String start = item.substring(0, place);
            if (Arrays.stream(words).anyMatch(word -> word.startsWith(start))) {
                break;
            }
            place--;
        }
        return place;
    }

    /** The numbers that may not be, ahead of the first place behind which no text of this form goes on. */
    private int firstFault(String item, int w) {
        int[][] most = {{9, 9, 9, 9, 3, 9}, {3, 9, 10}, {6, 99}, {now.askers.size() - 1}};
        int form = item.length();
        Pattern whole = Pattern.compile(ITEMS[w]);
        while (!goesOn(whole, item.substring(0, form))) {
            form--;
        }
        Matcher number = Pattern.compile("\\d+").matcher(item.substring(0, form));
        for (int k = 0; number.find(); k++) {
            if (Integer.parseInt(number.group()) > most[w][k]) {
                return number.start();
            }
        }
        return whole.matcher(item).matches() ? -1 : form;
    }

    private static boolean goesOn(Pattern whole, String start) {
        Matcher m = whole.matcher(start);
        return m.matches() || m.hitEnd();
    }

    private void tell(String[] numbers, int w) {
        List<Integer> n = new ArrayList<>();
        for (String number : numbers) {
            n.add(Integer.parseInt(number));
        }
        if (w == 0) {
            now.comers.add(n);
        } else if (w == 1) {
            asker(n.get(0), n.get(1), n.get(2));
        } else if (w == 2) {
            way(n.get(0), n.get(1));
        } else {
            chief(n.get(0));
        }
    }

    int fault() {
        return fault;
    }

    private int shown(int kind, int a, int asker, int comer) {
        List<Integer> c = now.comers.get(comer);
        List<Integer> k = now.askers.get(asker);
        int bonus = k.get(0).equals(c.get(4)) ? 10 * k.get(1) : 0;
        int feeling = 30 * c.get(3) + bonus;
        switch (kind) {
            case 0:
                return feeling;
            case 1:
            case 2:
                return (tenths(kind, a) * feeling + (10 - tenths(kind, a)) * 10 * sum(c)) / 10;
            case 3:
                return 30 * c.get(a % 3);
            case 4:
                return sum(c) < a ? 260 : 270;
            case 5:
                return 30 * c.get(5) + bonus;
            default:
                return 30 * c.get(5);
        }
    }

    int shows(int way, int asker, int comer) {
        return isWay(way) && isAsker(asker) && isComer(comer) ? shown(kind(way), a(way), asker, comer) : no(1);
    }

    private int saidBy(int kind, int a, boolean slips, int place, int comer) {
        int asker = now.order.get(place);
        int shown = shown(kind, a, asker, comer);
        if (slips || place == 0) {
            return shown;
        }
        int drawn = now.askers.get(asker).get(2);
        int ahead = saidBy(kind, a, slips, place - 1, comer);
        return BigDecimal.valueOf((10L - drawn) * shown + (long) drawn * ahead).movePointLeft(1)
            .setScale(0, RoundingMode.DOWN).intValue();
    }

    int said(int way, boolean slips, int asker, int comer) {
        return isWay(way) && isAsker(asker) && isComer(comer)
            ? saidBy(kind(way), a(way), slips, now.order.indexOf(asker), comer) : no(1);
    }

    private List<Integer> totals(int way, boolean slips, int kind) {
        List<Integer> totals = new ArrayList<>();
        for (int comer = 0; comer < now.comers.size(); comer++) {
            int total = 0;
            for (int place = 0; place < now.order.size(); place++) {
                total += saidBy(kind, a(way), slips, place, comer);
            }
            totals.add(total);
        }
        return totals;
    }

    private List<Integer> totals(int way, boolean slips) {
        return totals(way, slips, kind(way));
    }

    int total(int way, boolean slips, int comer) {
        return isWay(way) && isComer(comer) ? totals(way, slips).get(comer) : no(1);
    }

    int taken(int way, boolean slips) {
        return isWay(way) ? greatest(totals(way, slips)) : no(1) - 10;
    }

    int best() {
        return now.comers.isEmpty() ? no(5) : greatest(sums());
    }

    private int tellsBy(List<Integer> numbers, List<Integer> among) {
        int more = 0;
        int less = 0;
        List<Integer> sums = sums();
        for (int up : among) {
            for (int down : among) {
                if (sums.get(up) > sums.get(down)) {
                    more += numbers.get(up) > numbers.get(down) ? 1 : 0;
                    less += numbers.get(up) < numbers.get(down) ? 1 : 0;
                }
            }
        }
        return more - less;
    }

    private int tellsBy(List<Integer> numbers) {
        return tellsBy(numbers, firstOf(numbers, numbers.size()));
    }

    /** The COMERS of the greatest numbers, m of them or all. */
    private static List<Integer> firstOf(List<Integer> numbers, int m) {
        List<Integer> comers = new ArrayList<>();
        for (int comer = 0; comer < numbers.size(); comer++) {
            comers.add(comer);
        }
        comers.sort((one, other) -> numbers.get(other) - numbers.get(one));
        return comers.subList(0, Math.min(m, comers.size()));
    }

    int tells(int way, boolean slips) {
        return isWay(way) ? tellsBy(totals(way, slips)) : far(1);
    }

    int righted(int way, int m) {
        if (!isWay(way)) {
            return far(1);
        }
        return in(m, 2, 8) ? tellsBy(totals(way, true), firstOf(column(5), m)) : far(6);
    }

    int head() {
        List<Integer> tells = new ArrayList<>();
        for (int way = 0; way < now.ways.size(); way++) {
            tells.add(tells(way, true));
        }
        return tells.isEmpty() ? no(5) : greatest(tells);
    }

    private int joinedTells(int way, int other, int x) {
        List<Integer> ones = totals(way, true);
        List<Integer> others = totals(other, true);
        List<Integer> both = new ArrayList<>();
        for (int comer = 0; comer < ones.size(); comer++) {
            both.add(x * ones.get(comer) + (10 - x) * others.get(comer));
        }
        return tellsBy(both);
    }

    int joined(int way, int other, int x) {
        if (!isWay(way) || !isWay(other)) {
            return far(1);
        }
        return in(x, 0, 10) ? joinedTells(way, other, x) : far(6);
    }

    int weights(int way, int other) {
        if (!isWay(way) || !isWay(other)) {
            return no(1);
        }
        List<Integer> tells = new ArrayList<>();
        for (int x = 0; x <= 10; x++) {
            tells.add(joinedTells(way, other, x));
        }
        return greatest(tells);
    }

    private BigDecimal tenth(int place) {
        return BigDecimal.valueOf(now.askers.get(now.order.get(place)).get(2)).movePointLeft(1);
    }

    private BigDecimal behind(int place) {
        return place + 1 == now.order.size() ? BigDecimal.ONE
            : BigDecimal.ONE.add(tenth(place + 1).multiply(behind(place + 1)));
    }

    int heads(int asker) {
        if (!isAsker(asker)) {
            return no(1);
        }
        int place = now.order.indexOf(asker);
        BigDecimal own = place == 0 ? BigDecimal.ONE : BigDecimal.ONE.subtract(tenth(place));
        return own.multiply(behind(place)).movePointRight(4).intValueExact();
    }

    int agree(int way) {
        if (!isWay(way)) {
            return no(1);
        }
        if (now.comers.isEmpty()) {
            return no(5);
        }
        int taken = greatest(totals(way, false));
        int agree = 0;
        for (int asker = 0; asker < now.askers.size(); asker++) {
            List<Integer> alone = new ArrayList<>();
            for (int comer = 0; comer < now.comers.size(); comer++) {
                alone.add(shown(kind(way), a(way), asker, comer));
            }
            agree += greatest(alone) == taken ? 1 : 0;
        }
        return agree;
    }

    int wrong(int way, boolean slips) {
        if (!isWay(way)) {
            return no(1);
        }
        if (now.comers.isEmpty()) {
            return no(5);
        }
        return sums().get(greatest(sums())) - sums().get(greatest(totals(way, slips)));
    }

    int lost(int way, int k) {
        if (!isWay(way)) {
            return no(1);
        }
        if (k > now.comers.size()) {
            return no(5);
        }
        if (k < 1) {
            return no(6);
        }
        int lost = 0;
        for (int comer : firstOf(totals(way, true), k)) {
            lost += sums().get(greatest(sums())) - sums().get(comer);
        }
        return lost;
    }

    int turned(int way) {
        if (!isWay(way)) {
            return no(1);
        }
        int bits = 0;
        for (int asker = 0; asker < now.askers.size() && !now.comers.isEmpty(); asker++) {
            State was = now.copy();
            now.order.remove(Integer.valueOf(asker));
            bits |= 1 << greatest(totals(way, true));
            now = was;
        }
        return bits;
    }

    int piece() {
        return greatest(List.of(tellsBy(column(0)), tellsBy(column(1)), tellsBy(column(2))));
    }

    /** In how many orders of 1 to n the best is taken: orders in which each has a place, tried one by one. */
    private static int won(int n, int r, List<Integer> order) {
        if (order.size() == n) {
            List<Integer> gone = order.subList(0, r);
            for (int i = r; i < n; i++) {
                int one = order.get(i);
                if (gone.stream().allMatch(other -> other < one) && order.subList(r, i).stream().allMatch(o -> o < one)) {
                    return one == n ? 1 : 0;
                }
            }
            return order.get(n - 1) == n ? 1 : 0;
        }
        int won = 0;
        for (int one = 1; one <= n; one++) {
            if (!order.contains(one)) {
                order.add(one);
                won += won(n, r, order);
                order.remove(order.size() - 1);
            }
        }
        return won;
    }

    private static final int[][] WON = new int[9][9];

    private static int won(int n, int r) {
        if (WON[n][r] == 0) {
            WON[n][r] = won(n, r, new ArrayList<>());
        }
        return WON[n][r];
    }

    int comes(int n, int r) {
        return in(n, 1, 8) && in(r, 0, n - 1) ? won(n, r) : no(6);
    }

    int lets(int n) {
        if (!in(n, 1, 8)) {
            return no(6);
        }
        List<Integer> all = new ArrayList<>();
        for (int r = 0; r < n; r++) {
            all.add(won(n, r));
        }
        return greatest(all);
    }

    private int place(int s) {
        List<Integer> left = new ArrayList<>(firstOf(sums(), 8));
        for (int i = 0; i < rowAt(s).length; i++) {
            if (!left.remove(Integer.valueOf((int) rowAt(s)[i]))) {
                return i;
            }
        }
        return left.isEmpty() ? -1 : rowAt(s).length;
    }

    int judge(int s) {
        return noRow(s) != 0 ? no(noRow(s)) : place(s);
    }

    int told(int s) {
        if (noRow(s) != 0) {
            return far(noRow(s));
        }
        if (place(s) != -1) {
            return far(6);
        }
        Integer[] numbers = new Integer[now.comers.size()];
        for (int i = 0; i < numbers.length; i++) {
            numbers[(int) rowAt(s)[i]] = -i;
        }
        return tellsBy(Arrays.asList(numbers));
    }

    private int draw(int n) {
        now.seed = now.seed * 1103515245 + 12345;
        return Integer.remainderUnsigned((char) (now.seed >> 16), n);
    }

    int come(int n) {
        if (!in(n, 1, 8)) {
            return no(6);
        }
        int came = 0;
        for (; came < n && now.comers.size() < 8; came++) {
            List<Integer> comer = new ArrayList<>();
            for (int below : new int[] {10, 10, 10, 10, 4, 10}) {
                comer.add(draw(below));
            }
            now.comers.add(comer);
        }
        return came;
    }

    int clear() {
        int were = now.comers.size();
        now.comers.clear();
        return were;
    }

    int seed(int v) {
        int was = now.seed;
        now.seed = v;
        return was;
    }

    int act(int way, int act, int x) {
        trace = new ArrayList<>();
        return isWay(way) && in(act, 0, 2) ? run(way, kind(way), act, x) : 0;
    }

    /** The body of an act for a KIND, or of the next above that has one. */
    private int run(int way, int from, int act, int x) {
        int m = way;
        int k = a(way);
        int own = kind(way);
        int up = PARENT[from];
        switch (from * 10 + act) {
            case 0:
                trace.add(10);
                return x + m;
            case 1:
                trace.add(11);
                return run(way, own, 0, x) * 2;
            case 2: {
                trace.add(12);
                int one = run(way, own, 1, x);
                int two = run(way, own, 0, x - k);
                return one ^ two;
            }
            case 10:
                trace.add(20);
                return run(way, up, 0, x) + k;
            case 21:
                trace.add(30);
                return run(way, up, 1, x) * 3;
            case 31:
                trace.add(40);
                return run(way, up, 1, x + 1);
            case 32:
                trace.add(41);
                return run(way, up, 2, x) - m;
            case 42:
                trace.add(50);
                return -run(way, up, 2, x);
            case 50:
                trace.add(60);
                return run(way, up, 0, x) * 2;
            case 62:
                trace.add(70);
                return run(way, up, 2, x) ^ 5;
            case 61:
                trace.add(71);
                return run(way, up, 1, x - k);
            default:
                return run(way, up, act, x);
        }
    }

    int trace(int i) {
        return in(i, 0, Math.min(20, trace.size()) - 1) ? trace.get(i) : -1;
    }

    int image() {
        image = now.copy();
        return image.ways.size();
    }

    int restore() {
        if (image == null) {
            return no(6);
        }
        now = image.copy();
        for (int s = 0; s < 8; s++) {
            if (shelves[s] instanceof Integer && !isWay((Integer) shelves[s])) {
                shelves[s] = null;
            }
        }
        return now.ways.size();
    }

    int status(int what) {
        if (in(what, 11, 17)) {
            return refusals[what - 10];
        }
        if (!in(what, 0, 6)) {
            return -1;
        }
        int first = now.order.isEmpty() ? -1 : now.order.get(0);
        int sums = sums().stream().mapToInt(sum -> sum).sum();
        return List.of(now.comers.size(), now.askers.size(), now.ways.size(), sums, first, now.seed, trace.size())
            .get(what);
    }
}
