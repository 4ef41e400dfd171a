import java.io.IOException;
import java.nio.file.Files;
import java.nio.file.Path;
import java.util.TreeSet;

/** What the tests share: rows put into SHELVES, a small house, and a count of wrong answers. */
final class Checks {
    private static final Path DOCUMENT = Path.of("../shared/DOC.md");

    private static int asked = 0;
    private static int wrong = 0;
    private static String document = "";
    private static String sentence = "";
    private static final TreeSet<String> sections = new TreeSet<>();

    private Checks() {
    }

    static void due(String what, long got, long want) {
        asked++;
        if (got != want) {
            wrong++;
            System.out.println(sentence + what + " answered " + got + ", due is " + want);
        }
    }

    /** The words of the document that the answers behind this are due to: they must stand in that section of it. */
    static void sentence(String section, String words) {
        sections.add(section);
        sentence = "[" + section + ": " + words + "] ";
        asked++;
        if (!sectionOf(section).contains(words)) {
            wrong++;
            System.out.println(sentence + "does not stand in the document");
        }
    }

    static void promise(int number, String words) {
        sentence("Promise " + number, words);
    }

    static boolean hasPromise(int number) {
        return sections.contains("Promise " + number);
    }

    private static String sectionOf(String section) {
        if (document.isEmpty()) {
            try {
                document = Files.readString(DOCUMENT).replaceAll("\\s+", " ") + " ## ";
            } catch (IOException missing) {
                throw new IllegalStateException(missing);
            }
        }
        int start = document.indexOf("## " + section + (section.startsWith("Promise") ? ":" : " "));
        return start < 0 ? "" : document.substring(start, document.indexOf(" ## ", start));
    }

    static void end() {
        System.out.println(asked + " answers looked at, " + wrong + " not as they are due");
        if (wrong != 0 || asked == 0) {
            System.exit(1);
        }
    }

    static void row(FourAskOne x, int s, int sort, long... values) {
        due("row", x.row(s, sort, values.length), 1);
        for (int i = 0; i < values.length; i++) {
            due("set", x.set(s, i, values[i]), 1);
        }
    }

    /** A COMER by SHELF 6: the number. */
    static int comer(FourAskOne x, int... six) {
        x.row(6, 2, six.length);
        for (int i = 0; i < six.length; i++) {
            x.set(6, i, six[i]);
        }
        return x.comer(6, 0);
    }

    static void letters(FourAskOne x, int s, String text) {
        x.row(s, 0, text.length());
        for (int i = 0; i < text.length(); i++) {
            x.set(s, i, text.charAt(i));
        }
    }

    /** A house() by SHELF 7: how many ITEMS there should be. */
    static void read(FourAskOne x, String text, int items) {
        letters(x, 7, text);
        due("house of " + text, x.house(7), items);
        due("fault of " + text, x.fault(), FourAskOne.NONE);
    }

    static void readFault(FourAskOne x, String text, int place) {
        letters(x, 7, text);
        due("house of '" + text + "'", x.house(7), -6);
        due("fault of '" + text + "'", x.fault(), place);
    }

    static final String THREE_COMERS = "comer 2 4 6 5 1 7;comer 9 0 3 7 2 7;comer 1 8 8 3 1 2";
    static final String THREE_ASKERS = "asker 1 6 4;asker 2 3 5;asker 0 9 2";
    static final String SEVEN_WAYS = "way 0 37;way 1 13;way 2 18;way 3 7;way 4 13;way 5 50;way 6 99";

    /** SUMS 12, 12, 17; a WAY of each KIND, its number the KIND's. */
    static FourAskOne smallHouse() {
        FourAskOne x = new FourAskOne();
        read(x, THREE_COMERS, 3);
        read(x, THREE_ASKERS, 3);
        read(x, SEVEN_WAYS, 7);
        return x;
    }

    /** How many REFUSALS of each number there were. */
    static void refused(FourAskOne x, int... counts) {
        for (int i = 0; i < counts.length; i++) {
            due("status(" + (11 + i) + ")", x.status(11 + i), counts[i]);
        }
    }

    /** All that can be seen of comers, askers and ways, as one text. */
    static String seen(FourAskOne x) {
        StringBuilder all = new StringBuilder();
        for (int what = 0; what <= 5; what++) {
            all.append(x.status(what)).append(' ');
        }
        for (int n = 0; n < 8; n++) {
            for (int what = 0; what <= 6; what++) {
                all.append(x.comerOf(n, what)).append(' ');
            }
            for (int what = 0; what <= 3; what++) {
                all.append(x.askerOf(n, what)).append(' ');
            }
            all.append(x.wayOf(n, 0)).append(' ').append(x.wayOf(n, 1)).append(';');
        }
        return all.toString();
    }

    static void same(String what, String got, String want) {
        asked++;
        if (!got.equals(want)) {
            wrong++;
            System.out.println(sentence + what + ": " + got + "\n  due is " + want);
        }
    }
}
