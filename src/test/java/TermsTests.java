/** The sentences of "What it is" and "Terms" that name a boundary case: a test of its own for each. */
public final class TermsTests {
    private static final int LEAST = Integer.MIN_VALUE;
    private static final int MOST = Integer.MAX_VALUE;
    private static final int[] MOST_OF_COMER = {9, 9, 9, 9, 3, 9};
    private static final int[] MOST_OF_ASKER = {3, 9, 10};

    public static void main(String[] args) {
        calls();
        comers();
        comerNumbers();
        sum();
        askers();
        askerNumbers();
        order();
        ways();
        wayNumbers();
        kinds();
        items();
        itemNumbers();
        chief();
        blanks();
        digits();
        allOrNothing();
        room();
        earlyEnds();
        firstPlaces();
        numbersThatMayNotBe();
        roomIsAskedLate();
        bonus();
        wayShows();
        talkedShows();
        linedShows();
        workedShows();
        letteredShows();
        markedAndBlindShow();
        said();
        total();
        taken();
        best();
        nothingIsChanged();
        tells();
        righted();
        joined();
        weights();
        heads();
        headsAreNotCut();
        agree();
        wrong();
        lost();
        turned();
        piece();
        asTheyCome();
        theR();
        ranking();
        draws();
        drawsWrap();
        shelves();
        rows();
        lowestBits();
        rowsAsInts();
        actsWrap();
        nextKindAbove();
        trace();
        Checks.end();
    }

    private static void due(String what, long got, long want) {
        Checks.due(what, got, want);
    }

    private static void terms(String words) {
        Checks.sentence("Terms", words);
    }

    private static void calls() {
        Checks.sentence("What it is", "An object is used for at most 512 calls after it has been made");
        FourAskOne x = new FourAskOne();
        for (int call = 1; call <= 511; call++) {
            due("call " + call, x.set(0, 0, 0), -3);
        }
        due("call 512", x.status(13), 511);
        FourAskOne y = new FourAskOne();
        y.way(6, 99);
        for (int call = 2; call <= 511; call++) {
            y.seed(call);
        }
        due("call 512", y.seed(0), 511);
    }

    // 1. THE HOUSE

    private static void comers() {
        terms("COMERS have numbers, from 0 on, 8 at most");
        FourAskOne x = new FourAskOne();
        for (int number = 0; number < 8; number++) {
            due("comer", Checks.comer(x, number, 1, 1, 1, 1, 1), number);
        }
        due("a ninth", x.comer(6, 0), -7);
        due("a ninth by draws", x.come(1), 0);
        Checks.readFault(x, "comer 1 1 1 1 1 1", 0);
        due("how many", x.status(0), 8);
        for (int number = 0; number < 8; number++) {
            due("LINE 0 of " + number, x.comerOf(number, 0), number);
        }
        due("the ninth's", x.comerOf(8, 0), -5);
    }

    private static void comerNumbers() {
        terms("LINES 0 to 2 (0 to 9 each), LOOKS (0 to 9), SCHOOL (0 to 3), MARKS (0 to 9)");
        for (int what = 0; what < 6; what++) {
            int most = MOST_OF_COMER[what];
            FourAskOne x = new FourAskOne();
            due("all 0", Checks.comer(x, 0, 0, 0, 0, 0, 0), 0);
            for (int v : new int[] {-1, most + 1, LEAST, MOST}) {
                x.set(6, what, v);
                due("comer with " + v + " at " + what, x.comer(6, 0), -6);
                due("change of " + what + " to " + v, x.change(0, what, v), -6);
            }
            x.set(6, what, most);
            due("comer with " + most + " at " + what, x.comer(6, 0), 1);
            due("number " + what, x.comerOf(1, what), most);
            due("change of " + what + " to " + most, x.change(0, what, most), 0);
            due("change of " + what + " to 0", x.change(0, what, 0), most);
        }
    }

    private static void sum() {
        terms("SUM: LINES together");
        FourAskOne x = new FourAskOne();
        Checks.comer(x, 0, 0, 0, 9, 3, 9);
        due("the least", x.comerOf(0, 6), 0);
        Checks.comer(x, 9, 9, 9, 0, 0, 0);
        due("the most", x.comerOf(1, 6), 27);
    }

    private static void askers() {
        terms("ASKERS have numbers, from 0 on, 4 at most");
        FourAskOne x = new FourAskOne();
        for (int number = 0; number < 4; number++) {
            due("asker", x.asker(1, number, 1), number);
        }
        due("a fifth", x.asker(1, 1, 1), -7);
        Checks.readFault(x, "asker 1 1 1", 0);
        due("how many", x.status(1), 4);
        for (int number = 0; number < 4; number++) {
            due("LIKE of " + number, x.askerOf(number, 1), number);
        }
        due("the fifth's", x.askerOf(4, 1), -5);
    }

    private static void askerNumbers() {
        terms("SCHOOL (0 to 3), LIKE (0 to 9), DRAWN (0 to 10 tenths)");
        FourAskOne x = new FourAskOne();
        due("all least", x.asker(0, 0, 0), 0);
        due("all most", x.asker(3, 9, 10), 1);
        for (int what = 0; what < 3; what++) {
            due("least " + what, x.askerOf(0, what), 0);
            due("most " + what, x.askerOf(1, what), MOST_OF_ASKER[what]);
            for (int v : new int[] {-1, MOST_OF_ASKER[what] + 1, LEAST, MOST}) {
                int[] three = {1, 1, 1};
                three[what] = v;
                due("asker with " + v + " at " + what, x.asker(three[0], three[1], three[2]), -6);
            }
        }
    }

    private static void orderIs(FourAskOne x, int... askers) {
        due("first in ORDER", x.status(4), askers[0]);
        for (int place = 0; place < askers.length; place++) {
            due("place of " + askers[place], x.askerOf(askers[place], 3), place);
        }
    }

    private static void order() {
        terms("ORDER: in which the ASKERS say (at first by numbers; a new one last)");
        FourAskOne x = new FourAskOne();
        due("nobody first", x.status(4), -1);
        x.asker(0, 0, 0);
        orderIs(x, 0);
        x.asker(0, 0, 0);
        x.asker(0, 0, 0);
        orderIs(x, 0, 1, 2);
        x.chief(2);
        x.chief(1);
        Checks.read(x, "asker 0 0 0", 1);
        orderIs(x, 1, 2, 0, 3);
    }

    private static void ways() {
        terms("WAYS have numbers, from 0 on, 8 at most, each of a KIND");
        FourAskOne x = new FourAskOne();
        for (int number = 0; number < 8; number++) {
            due("way", x.way(number % 7, number), number);
        }
        due("a ninth", x.way(0, 0), -7);
        Checks.readFault(x, "way 0 0", 0);
        due("how many", x.status(2), 8);
        for (int number = 0; number < 8; number++) {
            due("KIND of " + number, x.wayOf(number, 0), number % 7);
            due("a of " + number, x.wayOf(number, 1), number);
        }
        due("the ninth's", x.wayOf(8, 0), -5);
    }

    private static void wayNumbers() {
        terms("6 BLIND, under MARKED; a (0 to 99)");
        FourAskOne x = new FourAskOne();
        due("KIND below", x.way(-1, 0), -1);
        due("KIND above", x.way(7, 0), -1);
        due("a below", x.way(0, -1), -6);
        due("a above", x.way(0, 100), -6);
        due("the least", x.way(0, 0), 0);
        due("the most", x.way(6, 99), 1);
        due("the most KIND", x.wayOf(1, 0), 6);
        due("the most a", x.wayOf(1, 1), 99);
    }

    private static void kinds() {
        terms("0 WAY; 1 TALKED, 3 WORKED, 4 LETTERED, 5 MARKED, each under WAY; 2 LINED, under TALKED; 6 BLIND, under");
        boolean[][] isUnder = new boolean[7][7];
        for (int kind = 0; kind < 7; kind++) {
            isUnder[kind][kind] = true;
            isUnder[kind][0] = true;
        }
        isUnder[2][1] = true;
        isUnder[6][5] = true;
        FourAskOne x = new FourAskOne();
        for (int kind = 0; kind < 7; kind++) {
            x.way(kind, 1);
            x.show(0, kind);
            for (int as = 0; as < 7; as++) {
                due(kind + " as " + as + " refused", x.says(0, as) == -2 ? 1 : 0, isUnder[kind][as] ? 0 : 1);
            }
        }
    }

    private static void items() {
        terms("A HOUSE is read from a ROW of letters: ITEM, then any number of times ; and ITEM");
        Checks.readFault(new FourAskOne(), "", 0);
        Checks.readFault(new FourAskOne(), ";", 0);
        Checks.read(new FourAskOne(), "way 0 0", 1);
        Checks.readFault(new FourAskOne(), "way 0 0;", 8);
        Checks.read(new FourAskOne(), "way 0 0;way 0 0", 2);
        Checks.readFault(new FourAskOne(), ";way 0 0", 0);
        Checks.readFault(new FourAskOne(), "way 0 0;;way 0 0", 8);
        FourAskOne x = new FourAskOne();
        x.asker(0, 0, 0);
        Checks.read(x, "chief 0;".repeat(19) + "chief 00", 20);
        x.set(7, 159, ';');
        due("a full ROW that ends too early", x.house(7), -6);
        due("its FAULT", x.fault(), 160);
        x.set(7, 159, 'x');
        due("a full ROW with a FAULT at its end", x.house(7), -6);
        due("its FAULT", x.fault(), 159);
    }

    private static void itemNumbers() {
        terms("comer X Y Z L S M (LINES 0, 1, 2, LOOKS, SCHOOL, MARKS); asker S L D (SCHOOL, LIKE, DRAWN); way K A");
        FourAskOne x = new FourAskOne();
        Checks.read(x, "comer 0 0 0 0 0 0;comer 9 9 9 9 3 9;asker 0 0 0;asker 3 9 10;way 0 0;way 6 99", 6);
        for (int what = 0; what < 6; what++) {
            due("least " + what, x.comerOf(0, what), 0);
            due("most " + what, x.comerOf(1, what), MOST_OF_COMER[what]);
        }
        for (int what = 0; what < 3; what++) {
            due("least " + what, x.askerOf(0, what), 0);
            due("most " + what, x.askerOf(1, what), MOST_OF_ASKER[what]);
        }
        due("least KIND", x.wayOf(0, 0), 0);
        due("least a", x.wayOf(0, 1), 0);
        due("most KIND", x.wayOf(1, 0), 6);
        due("most a", x.wayOf(1, 1), 99);
    }

    private static void chief() {
        terms("chief N (an ASKER there is: first in ORDER, the others as they were)");
        Checks.readFault(new FourAskOne(), "chief 0", 6);
        FourAskOne x = new FourAskOne();
        x.asker(0, 0, 0);
        x.asker(0, 0, 0);
        Checks.readFault(x, "chief 2", 6);
        Checks.readFault(x, "chief 2;asker 0 0 0", 6);
        Checks.read(x, "asker 0 0 0;chief 2", 2);
        orderIs(x, 2, 0, 1);
        Checks.read(x, "chief 2", 1);
        orderIs(x, 2, 0, 1);
        Checks.read(x, "chief 1;chief 0", 2);
        orderIs(x, 0, 1, 2);
    }

    private static void blanks() {
        terms("One blank between words and NUMBERS");
        Checks.readFault(new FourAskOne(), "way0 0", 3);
        Checks.readFault(new FourAskOne(), "way  0 0", 4);
        Checks.readFault(new FourAskOne(), "way 0  0", 6);
        Checks.readFault(new FourAskOne(), " way 0 0", 0);
        Checks.readFault(new FourAskOne(), "way 0 0 ", 7);
        Checks.readFault(new FourAskOne(), "way 0 0; way 0 0", 8);
        Checks.readFault(new FourAskOne(), "way\t0 0", 3);
    }

    private static void digits() {
        terms("NUMBERS (1 or 2 digits)");
        Checks.readFault(new FourAskOne(), "way  ", 4);
        Checks.readFault(new FourAskOne(), "way ;", 4);
        Checks.readFault(new FourAskOne(), "way / 0", 4);
        Checks.readFault(new FourAskOne(), "way : 0", 4);
        Checks.readFault(new FourAskOne(), "way 0/ 0", 5);
        Checks.readFault(new FourAskOne(), "way 0: 0", 5);
        Checks.readFault(new FourAskOne(), "way -0 0", 4);
        Checks.readFault(new FourAskOne(), "way 0 000", 8);
        Checks.readFault(new FourAskOne(), "way 000 0", 6);
        FourAskOne x = new FourAskOne();
        Checks.read(x, "way 6 9;way 06 09;way 00 90", 3);
        due("one digit", x.wayOf(0, 1), 9);
        due("two digits", x.wayOf(1, 1), 9);
        due("two digits", x.wayOf(1, 0), 6);
        due("two digits", x.wayOf(2, 1), 90);
    }

    private static void allOrNothing() {
        terms("All is told over what there is, or nothing");
        FourAskOne x = new FourAskOne();
        Checks.read(x, "comer 1 1 1 1 1 1;asker 1 1 1;way 1 1", 3);
        Checks.readFault(x, "comer 2 2 2 2 2 2;asker 2 2 2;way 2 2;chief 1;way 7 0", 50);
        due("comers", x.status(0), 1);
        due("askers", x.status(1), 1);
        due("ways", x.status(2), 1);
        due("first", x.status(4), 0);
        Checks.read(x, "comer 2 2 2 2 2 2;asker 2 2 2;way 2 2;chief 1;way 6 0", 5);
        due("what there was", x.comerOf(0, 0), 1);
        due("what is told", x.comerOf(1, 0), 2);
        due("askers", x.status(1), 2);
        due("ways", x.status(2), 3);
        due("first", x.status(4), 1);
    }

    private static void room() {
        terms("what there is no room for can't stand: its word");
        FourAskOne x = new FourAskOne();
        x.come(7);
        Checks.readFault(x, "comer 1 1 1 1 1 1;comer 1 1 1 1 1 1", 18);
        due("as it was", x.status(0), 7);
        Checks.read(x, "comer 1 1 1 1 1 1", 1);
        Checks.readFault(x, "comer 1 1 1 1 1 1", 0);
        x.asker(0, 0, 0);
        x.asker(0, 0, 0);
        x.asker(0, 0, 0);
        Checks.readFault(x, "asker 1 1 1;asker 1 1 1", 12);
        Checks.read(x, "asker 1 1 1", 1);
        Checks.readFault(x, "asker 1 1 1", 0);
        for (int way = 0; way < 7; way++) {
            x.way(0, 0);
        }
        Checks.readFault(x, "way 1 1;way 1 1", 8);
        Checks.read(x, "way 1 1", 1);
        Checks.readFault(x, "way 1 1", 0);
        Checks.read(x, "chief 3", 1);
    }

    /** A text of all four words, one ASKER being there: where a whole text could end, and all other places. */
    private static void earlyEnds() {
        terms("The FAULT: the first place at which an element can't stand as such texts go on "
            + "(the number of elements, if it ends too early)");
        String text = "comer 1 2 3 4 1 6;asker 3 9 10;way 6 99;chief 0;way 0 5";
        String ends = " 17 29 30 38 39 47 55 ";
        for (int n = 0; n <= text.length(); n++) {
            FourAskOne x = new FourAskOne();
            x.asker(0, 0, 0);
            Checks.letters(x, 7, text.substring(0, n));
            boolean whole = ends.contains(" " + n + " ");
            due("fault of " + n + " elements refused", x.house(7) == -6 ? 1 : 0, whole ? 0 : 1);
            due("fault of " + n + " elements", x.fault(), whole ? -1 : n);
        }
    }

    private static void firstPlaces() {
        terms("the first place at which an element can't stand");
        String text = "comer 1 2 3 4 1 6;asker 3 9 10;way 6 99;chief 0";
        FourAskOne x = null;
        for (int n = 0; n < text.length(); n++) {
            x = new FourAskOne();
            x.asker(0, 0, 0);
            Checks.letters(x, 7, text);
            for (int wrong : new int[] {'?', 0, -1, 127}) {
                x.set(7, n, wrong);
                due("house with " + wrong + " at " + n, x.house(7), -6);
                due("fault of " + wrong + " at " + n, x.fault(), n);
            }
        }
        Checks.readFault(x, "way 0 x;way 0 y", 6);
        Checks.readFault(x, "way 0 5wax", 7);
        Checks.readFault(x, "cay 0 0", 1);
        Checks.readFault(x, "chier 0", 4);
        Checks.readFault(x, "commer", 3);
        Checks.readFault(x, "WAY 0 0", 0);
    }

    private static void numbersThatMayNotBe() {
        terms("of a NUMBER that may not be the place of its first digit");
        numberFaults("comer ", MOST_OF_COMER);
        numberFaults("asker ", MOST_OF_ASKER);
        numberFaults("way ", new int[] {6, 99});
        numberFaults("chief ", new int[] {1});
    }

    /** Two ASKERS are there; each NUMBER in turn is one too great, and then the greatest. */
    private static void numberFaults(String word, int[] most) {
        for (int k = 0; k < most.length; k++) {
            String start = word + "0 ".repeat(k);
            String behind = " 0".repeat(most.length - 1 - k);
            FourAskOne x = new FourAskOne();
            x.asker(0, 0, 0);
            x.asker(0, 0, 0);
            if (most[k] < 99) {
                Checks.readFault(x, start + (most[k] + 1) + behind, start.length());
                Checks.readFault(x, start + (most[k] + 1), start.length());
                Checks.readFault(x, start + 99, start.length());
            }
            if (most[k] < 9) {
                Checks.readFault(x, start + "0" + (most[k] + 1) + behind, start.length());
            }
            Checks.read(x, start + most[k] + behind, 1);
        }
    }

    private static void roomIsAskedLate() {
        terms("Whether there is room for a word is asked when its letters stand whole: until then the first element "
            + "that is not as it is the FAULT, or the number of elements.");
        String[] words = {"comer", "asker", "way"};
        for (String word : words) {
            for (int n = 1; n < word.length(); n++) {
                Checks.readFault(fullHouse(), word.substring(0, n), n);
                Checks.readFault(fullHouse(), word.substring(0, n) + "?", n);
                Checks.readFault(fullHouse(), "chief 0;" + word.substring(0, n) + "?", 8 + n);
            }
            Checks.readFault(fullHouse(), word, 0);
            Checks.readFault(fullHouse(), word + "?", 0);
            Checks.readFault(fullHouse(), "chief 0;" + word + " 99", 8);
        }
    }

    private static FourAskOne fullHouse() {
        FourAskOne x = new FourAskOne();
        x.come(8);
        for (int n = 0; n < 8; n++) {
            x.way(n % 7, n);
        }
        for (int n = 0; n < 4; n++) {
            x.asker(n, 9 - n, n);
        }
        return x;
    }

    // 2. WHAT IS SHOWN AND SAID

    private static void bonus() {
        terms("10 times LIKE, if their SCHOOLS are alike, else 0");
        FourAskOne x = new FourAskOne();
        Checks.comer(x, 0, 0, 0, 0, 0, 0);
        x.way(0, 0);
        int[][] askers = {{0, 9, 90}, {0, 0, 0}, {3, 9, 0}, {1, 9, 0}};
        for (int n = 0; n < 4; n++) {
            x.asker(askers[n][0], askers[n][1], 0);
            due("BONUS of " + n, x.shows(0, n, 0), askers[n][2]);
        }
        x.change(0, 4, 3);
        due("SCHOOL 3", x.shows(0, 2, 0), 90);
        due("SCHOOL 3", x.shows(0, 0, 0), 0);
    }

    private static void wayShows() {
        terms("WAY: 30 times LOOKS, and BONUS");
        FourAskOne x = bestAndWorst();
        x.way(0, 99);
        due("the most", x.shows(0, 0, 0), 360);
        due("the least", x.shows(0, 0, 1), 0);
    }

    /** COMER 0 has all the most, COMER 1 all 0; the ASKER likes SCHOOL 3 by 9. */
    private static FourAskOne bestAndWorst() {
        FourAskOne x = new FourAskOne();
        Checks.comer(x, 9, 9, 9, 9, 3, 9);
        Checks.comer(x, 0, 0, 0, 0, 0, 0);
        x.asker(3, 9, 0);
        return x;
    }

    private static void shownBy(int kind, int[][] shownByA) {
        for (int[] one : shownByA) {
            FourAskOne x = bestAndWorst();
            x.way(kind, one[0]);
            due("KIND " + kind + ", a " + one[0], x.shows(0, 0, 0), one[1]);
            due("KIND " + kind + ", a " + one[0] + ", all 0", x.shows(0, 0, 1), 0);
        }
    }

    private static void talkedShows() {
        terms("TALKED: a modulo 11 times what a WAY SHOWS, and 10 less that times 10 times SUM, all by 10, cut");
        shownBy(1, new int[][] {{0, 270}, {1, 279}, {9, 351}, {10, 360}, {11, 270}, {21, 360}, {98, 360}, {99, 270}});
    }

    private static void linedShows() {
        terms("LINED: as TALKED, but with half of (a modulo 11), cut");
        shownBy(2, new int[][] {{0, 270}, {1, 270}, {2, 279}, {9, 306}, {10, 315}, {11, 270}, {12, 270}, {98, 315}});
    }

    private static void workedShows() {
        terms("WORKED: 30 times LINE a modulo 3");
        FourAskOne x = new FourAskOne();
        Checks.comer(x, 9, 0, 5, 1, 1, 1);
        x.asker(1, 9, 0);
        int[][] shown = {{0, 270}, {1, 0}, {2, 150}, {3, 270}, {98, 150}, {99, 270}};
        for (int way = 0; way < shown.length; way++) {
            x.way(3, shown[way][0]);
            due("a " + shown[way][0], x.shows(way, 0, 0), shown[way][1]);
        }
    }

    private static void letteredShows() {
        terms("LETTERED: 270, less 10 if SUM is below a");
        FourAskOne x = new FourAskOne();
        Checks.comer(x, 4, 4, 4, 9, 1, 9);
        x.asker(1, 9, 0);
        int[][] shown = {{0, 270}, {11, 270}, {12, 270}, {13, 260}, {99, 260}};
        for (int way = 0; way < shown.length; way++) {
            x.way(4, shown[way][0]);
            due("a " + shown[way][0] + ", SUM 12", x.shows(way, 0, 0), shown[way][1]);
        }
    }

    private static void markedAndBlindShow() {
        terms("MARKED: 30 times MARKS, and BONUS. BLIND: 30 times MARKS.");
        shownBy(5, new int[][] {{0, 360}, {99, 360}});
        shownBy(6, new int[][] {{0, 270}, {99, 270}});
    }

    private static void said() {
        terms("the first what it SHOWS; each further one 10 less DRAWN times what it SHOWS, "
            + "and DRAWN times what the one ahead SAID, by 10, cut");
        FourAskOne x = new FourAskOne();
        Checks.comer(x, 2, 4, 6, 5, 1, 7);
        x.way(1, 13);
        x.asker(1, 6, 10);
        due("the first, DRAWN 10", x.said(0, false, 0, 0), 138);
        x.asker(2, 3, 3);
        due("the second, 7 times 126 and 3 times 138 by 10", x.said(0, false, 1, 0), 129);
        x.asker(0, 9, 9);
        due("the third, 126 and 9 times 129 by 10", x.said(0, false, 2, 0), 128);
        x.asker(3, 0, 10);
        due("wholly drawn", x.said(0, false, 3, 0), 128);
        x.drawn(3, 0);
        due("not drawn", x.said(0, false, 3, 0), 126);
        due("by slips", x.said(0, true, 2, 0), 126);
        x.chief(2);
        due("now the first", x.said(0, false, 2, 0), 126);
        due("now the second, DRAWN 10", x.said(0, false, 0, 0), 126);
    }

    private static void total() {
        terms("TOTAL: all SAID together");
        FourAskOne x = bestAndWorst();
        x.way(0, 0);
        due("one", x.total(0, true, 0), 360);
        x.asker(3, 9, 5);
        x.asker(3, 9, 10);
        x.asker(3, 9, 0);
        due("all four", x.total(0, true, 0), 1440);
        due("all four in ORDER", x.total(0, false, 0), 1440);
        due("all 0", x.total(0, false, 1), 0);
        FourAskOne y = new FourAskOne();
        Checks.comer(y, 9, 9, 9, 9, 3, 9);
        y.way(0, 0);
        due("nobody", y.total(0, true, 0), 0);
        due("nobody in ORDER", y.total(0, false, 0), 0);
    }

    /** Eight COMERS with these LOOKS, and SUMS that grow by numbers; a WAY of each of the given KINDS. */
    private static FourAskOne eight(int[] looks, int... kinds) {
        FourAskOne x = new FourAskOne();
        for (int n = 0; n < looks.length; n++) {
            Checks.comer(x, n, 0, 0, looks[n], 0, 9 - looks[n]);
        }
        for (int kind : kinds) {
            x.way(kind, 0);
        }
        x.asker(1, 0, 0);
        return x;
    }

    private static void taken() {
        terms("TAKEN: the COMER of the greatest TOTAL, of several the first");
        due("all alike", eight(new int[] {4, 4, 4, 4, 4, 4, 4, 4}, 0).taken(0, true), 0);
        due("all 0", eight(new int[] {0, 0, 0, 0, 0, 0, 0, 0}, 0).taken(0, false), 0);
        due("the last", eight(new int[] {4, 4, 4, 4, 4, 4, 4, 5}, 0).taken(0, true), 7);
        due("of the last two", eight(new int[] {4, 4, 4, 4, 4, 4, 5, 5}, 0).taken(0, true), 6);
        due("in ORDER", eight(new int[] {4, 4, 4, 4, 4, 4, 5, 5}, 0).taken(0, false), 6);
        due("nobody", eight(new int[0], 0).taken(0, true), -1);
        FourAskOne x = new FourAskOne();
        x.come(8);
        x.way(1, 0);
        due("without ASKERS", x.taken(0, true), 0);
    }

    private static void best() {
        terms("BEST: that of the greatest SUM, of several the first");
        FourAskOne x = eight(new int[] {0, 0, 0, 0, 0, 0, 0, 0});
        due("the last", x.best(), 7);
        x.change(5, 2, 2);
        due("of two", x.best(), 5);
        x.change(0, 1, 9);
        due("the first", x.best(), 0);
        FourAskOne y = new FourAskOne();
        Checks.comer(y, 0, 0, 0, 0, 0, 0);
        Checks.comer(y, 0, 0, 0, 9, 3, 9);
        due("all 0", y.best(), 0);
    }

    // 3. WHAT COMES OF IT

    private static void nothingIsChanged() {
        terms("3. WHAT COMES OF IT (nothing is changed)");
        FourAskOne x = Checks.smallHouse();
        String was = Checks.seen(x);
        for (int way = 0; way < 3; way++) {
            x.tells(way, false);
            x.righted(way, 2);
            x.joined(way, 3, 5);
            x.weights(way, 3);
            x.heads(way);
            x.agree(way);
            x.wrong(way, true);
            x.lost(way, 2);
            x.turned(way);
        }
        x.head();
        x.piece();
        x.comes(8, 3);
        x.lets(8);
        x.told(0);
        x.judge(0);
        Checks.same("what there is", Checks.seen(x), was);
    }

    private static void tells() {
        terms("of all pairs of COMERS with unlike SUMS how many have the greater number where the greater SUM is, "
            + "less how many have it where the less is");
        due("all 28 pairs", eight(new int[] {0, 1, 2, 3, 4, 5, 6, 7}, 0).tells(0, true), 28);
        due("all 28 the other way", eight(new int[] {7, 6, 5, 4, 3, 2, 1, 0}, 0).tells(0, true), -28);
        due("all numbers alike", eight(new int[] {5, 5, 5, 5, 5, 5, 5, 5}, 0).tells(0, true), 0);
        due("one apart", eight(new int[] {5, 5, 5, 5, 5, 5, 5, 6}, 0).tells(0, true), 7);
        due("one COMER", eight(new int[] {5}, 0).tells(0, true), 0);
        due("no COMERS", eight(new int[0], 0).tells(0, true), 0);
        FourAskOne x = new FourAskOne();
        Checks.comer(x, 1, 2, 3, 9, 0, 0);
        Checks.comer(x, 3, 2, 1, 0, 0, 0);
        x.asker(1, 0, 0);
        x.way(0, 0);
        due("SUMS alike", x.tells(0, true), 0);
    }

    private static void righted() {
        terms("RIGHTED: the same, of pairs both among the m COMERS of the greatest MARKS alone "
            + "(of several alike the first; m 2 to 8)");
        // MARKS are 9 less LOOKS
        FourAskOne x = eight(new int[] {0, 1, 2, 3, 4, 5, 6, 7}, 0, 5);
        for (int m = 2; m <= 8; m++) {
            due("m " + m, x.righted(0, m), m * (m - 1) / 2);
            due("m " + m, x.righted(1, m), -m * (m - 1) / 2);
        }
        due("m 1", x.righted(0, 1), -1006);
        due("m 9", x.righted(0, 9), -1006);
        for (int n = 0; n < 8; n++) {
            x.change(n, 5, 4);
        }
        x.change(1, 3, 0);
        due("MARKS all alike: the first two, LOOKS 0 and 0", x.righted(0, 2), 0);
        due("MARKS all alike: the first three, LOOKS 0, 0, 2", x.righted(0, 3), 2);
        x.change(7, 5, 5);
        due("the last and the first", x.righted(0, 2), 1);
    }

    private static void joined() {
        terms("JOINED: of two WAYS, with x tenths: x times the one's TOTALS (by SLIPS) "
            + "and 10 less x times the other's");
        FourAskOne x = eight(new int[] {0, 1, 2, 3, 4, 5, 6, 7}, 0, 5);
        due("the other alone", x.joined(0, 1, 0), -28);
        due("less of the one", x.joined(0, 1, 4), -28);
        due("as much of both", x.joined(0, 1, 5), 0);
        due("more of the one", x.joined(0, 1, 6), 28);
        due("the one alone", x.joined(0, 1, 10), 28);
        due("x below", x.joined(0, 1, -1), -1006);
        due("x above", x.joined(0, 1, 11), -1006);
    }

    private static void weights() {
        terms("the x (0 to 10) by which that TELLS most, of several the least");
        FourAskOne x = eight(new int[] {0, 1, 2, 3, 4, 5, 6, 7}, 0, 5);
        due("6 to 10 alike", x.weights(0, 1), 6);
        due("0 to 4 alike", x.weights(1, 0), 0);
        due("all alike", x.weights(0, 0), 0);
        x.clear();
        due("no COMERS", x.weights(0, 1), 0);
        // LOOKS 0, 9 of SUMS 0, 1; MARKS 9, 0: 9 x and 9 times 10 less x
        Checks.comer(x, 0, 0, 0, 0, 0, 9);
        Checks.comer(x, 1, 0, 0, 1, 0, 0);
        due("only 10: 9 times 10 less x below x", x.weights(0, 1), 10);
        x.change(0, 5, 8);
        due("9 and 10: 8 times 10 less x below x", x.weights(0, 1), 9);
        x.change(0, 5, 0);
        due("all but 0: MARKS alike", x.weights(0, 1), 1);
        x.change(0, 5, 9);
        x.change(1, 3, 0);
        due("only 10 is not below 0: LOOKS alike", x.weights(0, 1), 10);
    }

    private static void headsAre(FourAskOne x, int... heads) {
        for (int asker = 0; asker < heads.length; asker++) {
            due("HEADS of " + asker, x.heads(asker), heads[asker]);
        }
    }

    private static FourAskOne drawnBy(int... tenths) {
        FourAskOne x = new FourAskOne();
        for (int drawn : tenths) {
            x.asker(0, 0, drawn);
        }
        return x;
    }

    private static void heads() {
        terms("own share (10 less DRAWN, by 10; the first 10 by 10) times 1, and DRAWN of the next by 10, "
            + "and that times DRAWN of the next but one by 10, and so on");
        headsAre(drawnBy(0), 10000);
        headsAre(drawnBy(10), 10000);
        headsAre(drawnBy(10, 0), 10000, 10000);
        headsAre(drawnBy(0, 10), 20000, 0);
        headsAre(drawnBy(0, 0, 0, 0), 10000, 10000, 10000, 10000);
        headsAre(drawnBy(10, 10, 10, 10), 40000, 0, 0, 0);
        headsAre(drawnBy(5, 10, 0, 10), 20000, 0, 20000, 0);
    }

    private static void headsAreNotCut() {
        terms("of 10,000 each (without cutting within)");
        headsAre(drawnBy(1, 9, 9, 9), 34390, 2710, 1900, 1000);
        headsAre(drawnBy(9, 1, 1, 1), 11110, 9990, 9900, 9000);
        headsAre(drawnBy(0, 3, 7, 9), 16990, 16310, 5700, 1000);
    }

    private static void agree() {
        terms("AGREE: how many ASKERS would each take the COMER that TAKEN is, by what is SHOWN to them alone");
        FourAskOne x = new FourAskOne();
        Checks.comer(x, 0, 0, 0, 5, 1, 0);
        Checks.comer(x, 0, 0, 0, 5, 2, 0);
        x.way(0, 0);
        due("no ASKERS", x.agree(0), 0);
        x.asker(0, 9, 0);
        due("one, both alike: the first", x.agree(0), 1);
        x.asker(2, 5, 0);
        due("COMER 1 is TAKEN, the first ASKER not for it", x.agree(0), 1);
        x.asker(2, 5, 0);
        x.asker(2, 5, 0);
        due("three of four", x.agree(0), 3);
        x.change(1, 3, 9);
        due("all four", x.agree(0), 4);
    }

    private static void wrong() {
        terms("WRONG: BEST's SUM less that of the one TAKEN");
        FourAskOne x = bestAndWorst();
        x.way(0, 0);
        due("BEST is TAKEN", x.wrong(0, true), 0);
        x.change(0, 3, 0);
        x.change(0, 4, 0);
        x.change(1, 3, 1);
        due("the most", x.wrong(0, true), 27);
        due("the most in ORDER", x.wrong(0, false), 27);
    }

    private static void lost() {
        terms("LOST by a lot among the k (1 to 8) of the greatest TOTALS (by SLIPS; of several the first): "
            + "k times BEST's SUM less all their SUMS");
        FourAskOne x = eight(new int[] {7, 6, 5, 4, 3, 2, 1, 0}, 0);
        int[] lost = {7, 13, 18, 22, 25, 27, 28, 28};
        for (int k = 1; k <= 8; k++) {
            due("k " + k, x.lost(0, k), lost[k - 1]);
        }
        due("k 0", x.lost(0, 0), -6);
        for (int n = 0; n < 8; n++) {
            x.change(n, 3, 4);
        }
        for (int k = 1; k <= 8; k++) {
            due("all alike, k " + k, x.lost(0, k), lost[k - 1]);
        }
        x.change(7, 3, 5);
        due("the last alone", x.lost(0, 1), 0);
        due("the last and the first", x.lost(0, 2), 7);
    }

    private static void turned() {
        terms("TURNED: COMERS (bits) who would be TAKEN (by SLIPS) if one ASKER were away, each in turn");
        FourAskOne x = new FourAskOne();
        for (int n = 0; n < 8; n++) {
            Checks.comer(x, 0, 0, 0, n < 6 ? 0 : 5, n < 6 ? 0 : n - 5, 0);
        }
        x.way(0, 0);
        due("no ASKERS", x.turned(0), 0);
        x.asker(1, 1, 0);
        due("the only one away: all alike, the first", x.turned(0), 1);
        x.asker(2, 1, 0);
        due("the last and the last but one", x.turned(0), 192);
        x.asker(2, 1, 0);
        due("one of three away: alike, the first of the two, or the last", x.turned(0), 192);
        x.asker(2, 1, 0);
        due("the last alone", x.turned(0), 128);
    }

    private static void piece() {
        terms("PIECE: the LINE (0 to 2) that TELLS most, of several the first");
        int[][][] lines = {{{0, 0, 0}, {1, 1, 1}}, {{9, 0, 0}, {0, 9, 1}}, {{9, 0, 0}, {0, 9, 9}},
            {{9, 0, 0}, {0, 0, 9}}, {{5, 5, 0}, {4, 4, 9}}, {{9, 0, 0}, {9, 0, 0}}};
        int[] pieces = {0, 1, 1, 0, 2, 0};
        for (int i = 0; i < pieces.length; i++) {
            FourAskOne x = new FourAskOne();
            for (int[] line : lines[i]) {
                Checks.comer(x, line[0], line[1], line[2], 0, 0, 0);
            }
            due("PIECE " + i, x.piece(), pieces[i]);
        }
        due("no COMERS", new FourAskOne().piece(), 0);
        FourAskOne x = new FourAskOne();
        Checks.comer(x, 3, 0, 0, 1, 0, 1);
        Checks.comer(x, 0, 4, 0, 2, 0, 2);
        Checks.comer(x, 0, 0, 5, 3, 0, 3);
        due("LINES tell -2, 0, 2; LOOKS and MARKS, that tell 3, are no LINES", x.piece(), 2);
    }

    private static final int[][] COMES = {{1}, {1, 1}, {2, 3, 2}, {6, 11, 10, 6}, {24, 50, 52, 42, 24},
        {120, 274, 308, 282, 216, 120}, {720, 1764, 2088, 2052, 1776, 1320, 720},
        {5040, 13068, 16056, 16524, 15312, 12840, 9360, 5040}};

    private static void asTheyCome() {
        terms("AS THEY COME: n COMERS (1 to 8), all unlike, in all orders: one lets r (0 to n less 1) go by, "
            + "then takes the first who is better than all ahead, else the last: "
            + "in how many orders the best of all is taken");
        FourAskOne x = new FourAskOne();
        for (int n = 1; n <= 8; n++) {
            for (int r = 0; r < n; r++) {
                due("n " + n + " r " + r, x.comes(n, r), COMES[n - 1][r]);
            }
            due("n " + n + " r " + n, x.comes(n, n), -6);
            due("n " + n + " r -1", x.comes(n, -1), -6);
        }
        due("n 0", x.comes(0, 0), -6);
        due("n 9", x.comes(9, 0), -6);
    }

    private static void theR() {
        terms("The r by which that is most, of several the least");
        int[] lets = {0, 0, 1, 1, 2, 2, 2, 3};
        FourAskOne x = new FourAskOne();
        for (int n = 1; n <= 8; n++) {
            due("n " + n, x.lets(n), lets[n - 1]);
        }
        due("n 0", x.lets(0), -6);
        due("n 9", x.lets(9), -6);
    }

    private static void ranking() {
        terms("A told RANKING: a ROW of all COMERS, each once: TELLS by it (the first has the greatest number); "
            + "the first place that may not be.");
        FourAskOne x = eight(new int[] {0, 0, 0, 0, 0, 0, 0, 0});
        Checks.row(x, 0, 0, 7, 6, 5, 4, 3, 2, 1, 0);
        due("it may be", x.judge(0), -1);
        due("all 28 pairs", x.told(0), 28);
        Checks.row(x, 0, 0, 0, 1, 2, 3, 4, 5, 6, 7);
        due("the other way", x.told(0), -28);
        for (int place = 0; place < 8; place++) {
            for (long wrong : new long[] {-1, 8, (place + 7) % 8}) {
                x.set(0, place, wrong);
                due(wrong + " at " + place, x.judge(0), Math.max(place, wrong == 7 ? 7 : 0));
            }
            x.set(0, place, place);
        }
        due("all as it was", x.judge(0), -1);
    }

    private static void draws() {
        terms("BY DRAWS a COMER comes: LINES DRAWS below 10, LOOKS, then SCHOOL a DRAW below 4, MARKS. "
            + "A DRAW below n: SEED (1 at first)");
        FourAskOne x = new FourAskOne();
        due("SEED", x.status(5), 1);
        x.come(1);
        comerIs(x, 8, 6, 3, 3, 3, 5);
        due("SEED behind six DRAWS", x.status(5), -1778682749);
    }

    private static void comerIs(FourAskOne x, int... numbers) {
        for (int what = 0; what < numbers.length; what++) {
            due("number " + what, x.comerOf(0, what), numbers[what]);
        }
    }

    private static void drawsWrap() {
        terms("(an int, wrapping); its upper 16 bits, no sign, modulo n");
        int[] seeds = {0, -1, MOST, LEAST};
        int[][] numbers = {{0, 6, 6, 5, 2, 5}, {7, 9, 2, 6, 1, 4}, {9, 7, 0, 8, 1, 6}, {8, 8, 8, 7, 2, 7}};
        int[] behind = {-1038148470, -297614191, 1849869457, 1109335178};
        for (int i = 0; i < seeds.length; i++) {
            FourAskOne x = new FourAskOne();
            x.seed(seeds[i]);
            x.come(1);
            comerIs(x, numbers[i]);
            due("SEED behind " + seeds[i], x.status(5), behind[i]);
        }
    }

    private static void shelves() {
        terms("SHELVES 0 to 7 hold NOTHING (at first), a ROW, or a WAY");
        FourAskOne x = new FourAskOne();
        x.way(0, 0);
        for (int s = -1; s <= 8; s++) {
            boolean there = s >= 0 && s < 8;
            due("NOTHING at first " + s, x.holds(s), -1);
            due("a ROW " + s, x.row(s, 0, 1), there ? 1 : -1);
            due("a ROW " + s, x.holds(s), there ? 100 : -1);
            due("a WAY " + s, x.show(s, 0), there ? 1 : -1);
            due("a WAY " + s, x.holds(s), there ? 0 : -1);
            due("NOTHING " + s, x.show(s, -1), there ? 0 : -1);
            due("NOTHING " + s, x.holds(s), -1);
        }
    }

    private static void rows() {
        terms("A ROW has a SORT (0 bytes, 1 shorts, 2 ints, 3 longs) and 0 to 160 elements, 0 at first");
        FourAskOne x = new FourAskOne();
        for (int sort = 0; sort <= 3; sort++) {
            due("empty", x.row(0, sort, 0), 1);
            due("no element", x.set(0, 0, 1), -5);
            due("full", x.row(0, sort, 160), 1);
            due("the last", x.set(0, 159, 9), 1);
            due("behind the last", x.set(0, 160, 9), -5);
            due("the last", x.element(0, 159), 9);
            due("full anew", x.row(0, sort, 160), 1);
            due("0 at first", x.element(0, 159), 0);
            due("one too many", x.row(0, sort, 161), -7);
        }
        due("SORT below", x.row(0, -1, 0), -6);
        due("SORT above", x.row(0, 4, 0), -6);
    }

    private static void lowestBits() {
        terms("what is put in keeps its lowest bits");
        long[] most = {Byte.MAX_VALUE, Short.MAX_VALUE, MOST, Long.MAX_VALUE};
        FourAskOne x = new FourAskOne();
        for (int sort = 0; sort <= 3; sort++) {
            x.row(0, sort, 1);
            long least = -most[sort] - 1;
            long[][] kept = {{most[sort], most[sort]}, {least, least}, {most[sort] + 1, least},
                {least - 1, most[sort]}, {-1, -1}, {0, 0}};
            for (long[] one : kept) {
                x.set(0, 0, one[0]);
                due("SORT " + sort + " of " + one[0], x.element(0, 0), one[1]);
            }
        }
    }

    private static void rowsAsInts() {
        terms("(As ints: of longs the lowest 32 bits.)");
        FourAskOne x = new FourAskOne();
        long high = 0x7FFFFFFF_00000000L;
        Checks.row(x, 0, 3, high + 1, high, high, high, high, high);
        due("a COMER", x.comer(0, 0), 0);
        due("LINE 0", x.comerOf(0, 0), 1);
        x.set(0, 0, 1L << 31);
        due("a COMER", x.comer(0, 0), -6);
        Checks.row(x, 1, 3, 1L << 32);
        due("a RANKING", x.judge(1), -1);
        due("a RANKING", x.told(1), 0);
        Checks.row(x, 2, 3, 'w', high + 'a', 'y' - (1L << 32), ' ', '6', ' ', high + '9');
        due("a HOUSE", x.house(2), 1);
        x.set(2, 0, 'w' + (1L << 31));
        due("a HOUSE", x.house(2), -6);
        due("its FAULT", x.fault(), 0);
    }

    private static void actsWrap() {
        terms("ACTS of WAYS, with x (wrapping)");
        FourAskOne x = new FourAskOne();
        for (int kind = 0; kind < 7; kind++) {
            x.way(kind, 99);
        }
        x.way(0, 99);
        due("WAY feels: x and 7", x.act(7, 0, MOST), LEAST + 6);
        due("WAY asks: times 2", x.act(0, 1, LEAST), 0);
        due("WAY sums: x less a", x.act(0, 2, LEAST), MOST - 98);
        due("TALKED feels: x, 1 and a", x.act(1, 0, MOST), LEAST + 99);
        due("LINED asks: x, 2 and a times 2 times 3", x.act(2, 1, MOST), 600);
        due("WORKED asks: x and 1", x.act(3, 1, MOST), 6);
        due("WORKED sums: less 3", x.act(3, 2, MOST), (6 ^ MOST - 96) - 3);
        due("LETTERED sums: below 0", x.act(4, 2, LEAST), -(8 ^ LEAST - 95));
        due("MARKED feels: times 2", x.act(5, 0, MOST), 8);
        due("BLIND asks: x less a", x.act(6, 1, LEAST), -372);
        due("BLIND sums", x.act(6, 2, LEAST), (-372 ^ -186) ^ 5);
        FourAskOne y = new FourAskOne();
        y.way(6, 3);
        due("BLIND sums, 4 and 2 and 5", y.act(0, 2, 4), 3);
        due("BLIND sums, -8 and -4 and 5", y.act(0, 2, 1), 1);
    }

    private static void nextKindAbove() {
        terms("the body of the WAY's KIND, or of the next KIND above that has one; "
            + "super: from the KIND above the body's on");
        int[][][] bodies = {{{10}, {11, 10}, {12, 11, 10, 10}},
            {{20, 10}, {11, 20, 10}, {12, 11, 20, 10, 20, 10}},
            {{20, 10}, {30, 11, 20, 10}, {12, 30, 11, 20, 10, 20, 10}},
            {{10}, {40, 11, 10}, {41, 12, 40, 11, 10, 10}},
            {{10}, {11, 10}, {50, 12, 11, 10, 10}},
            {{60, 10}, {11, 60, 10}, {12, 11, 60, 10, 60, 10}},
            {{60, 10}, {71, 11, 60, 10}, {70, 12, 71, 11, 60, 10, 60, 10}}};
        for (int kind = 0; kind < 7; kind++) {
            FourAskOne x = new FourAskOne();
            x.way(kind, 5);
            for (int act = 0; act < 3; act++) {
                x.act(0, act, 1);
                int[] ran = bodies[kind][act];
                due("how many of " + kind + ", " + act, x.status(6), ran.length);
                for (int i = 0; i <= ran.length; i++) {
                    due("body " + i + " of " + kind + ", " + act, x.trace(i), i < ran.length ? ran[i] : -1);
                }
            }
        }
    }

    /** No act runs more than eight bodies: the twentieth is never there. */
    private static void trace() {
        terms("THE TRACE: the numbers of the bodies that ran in the latest act(), in the order in which they began; "
            + "the first 20 are kept");
        FourAskOne x = new FourAskOne();
        x.way(6, 5);
        x.act(0, 2, 1);
        due("the first", x.trace(0), 70);
        due("the last", x.trace(7), 10);
        for (int i : new int[] {-1, 8, 19, 20, MOST, LEAST}) {
            due("none at " + i, x.trace(i), -1);
        }
        x.act(0, 0, 1);
        due("of the latest alone", x.trace(0), 60);
        due("of the latest alone", x.trace(2), -1);
    }
}
