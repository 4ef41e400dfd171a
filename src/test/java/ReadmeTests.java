import java.io.IOException;
import java.nio.file.Files;
import java.nio.file.Path;
import java.util.List;

/** The example in README.md answers what stands behind its calls, and the commands there name files that are there. */
public final class ReadmeTests {
    private static final String CALL_ENDS = ";";
    private static final String ANSWER_BEGINS = "// ";
    private static final String ANSWER_ENDS = ":";

    private static List<String> lines;
    private static int next = 0;

    public static void main(String[] args) throws IOException {
        lines = Files.readAllLines(Path.of("README.md"));
        example();
        commands();
        Checks.end();
    }

    private static void example() {
        FourAskOne x = new FourAskOne();
        told("x.asker(1, 6, 4)", x.asker(1, 6, 4));
        told("x.come(3)", x.come(3));
        String text = "comer 9 9 6 2 0 8;asker 2 3 8;way 0 0;way 1 13";
        stands("String text = \"" + text + "\";");
        stands("x.row(0, 0, text.length());");
        x.row(0, 0, text.length());
        stands("x.set(0, i, text.charAt(i));");
        for (int i = 0; i < text.length(); i++) {
            x.set(0, i, text.charAt(i));
        }
        told("x.house(0)", x.house(0));
        told("x.fault()", x.fault());
        told("x.taken(0, true)", x.taken(0, true));
        told("x.wrong(0, true)", x.wrong(0, true));
        told("x.taken(1, true)", x.taken(1, true));
        told("x.tells(1, false)", x.tells(1, false));
        told("x.image()", x.image());
        told("x.clear()", x.clear());
        told("x.best()", x.best());
        told("x.status(15)", x.status(15));
        told("x.restore()", x.restore());
        told("x.best()", x.best());
        Checks.due("calls of the README behind these", callsLeft(), 0);
    }

    /** A call of the README behind those before it, with the answer that is told there. */
    private static void told(String call, int answer) {
        String line = stands(call + CALL_ENDS);
        int begins = line.indexOf(ANSWER_BEGINS);
        int ends = line.indexOf(ANSWER_ENDS, begins + 1);
        boolean isTold = begins >= 0 && ends >= 0;
        Checks.due(call + " has its answer in the README", isTold ? 1 : 0, 1);
        if (isTold) {
            Checks.due(call, answer, Integer.parseInt(line.substring(begins + ANSWER_BEGINS.length(), ends)));
        }
    }

    private static String stands(String beginning) {
        for (int i = next; i < lines.size(); i++) {
            String line = lines.get(i).strip();
            if (line.startsWith(beginning)) {
                next = i + 1;
                return line;
            }
        }
        Checks.due("'" + beginning + "' stands in the README", 0, 1);
        return "";
    }

    private static int callsLeft() {
        int left = 0;
        for (int i = next; i < lines.size(); i++) {
            left += lines.get(i).startsWith("x.") ? 1 : 0;
        }
        return left;
    }

    private static void commands() {
        stands("javac -sourcepath src/test/java -d out");
        for (String file : List.of("src/main/java/FourAskOne.java", "src/test/java/ShelfTests.java", ".ci/run",
                "../shared/DOC.md", "../shared/LANGUAGE.md")) {
            Checks.due(file + " is named", String.join("\n", lines).contains(file) ? 1 : 0, 1);
            Checks.due(file + " is there", Files.exists(Path.of(file)) ? 1 : 0, 1);
        }
    }
}
