import java.lang.reflect.Constructor;
import java.lang.reflect.Field;
import java.lang.reflect.Method;
import java.lang.reflect.Modifier;
import java.nio.file.Files;
import java.nio.file.Path;
import java.util.ArrayList;
import java.util.List;
import java.util.TreeSet;
import java.util.regex.Matcher;
import java.util.regex.Pattern;

/** The public face is DOC.md's, and the source keeps to the rules of LANGUAGE.md that can be seen by reading it. */
public final class FaceTests {
    private static final Path SOURCE = Path.of("src/main/java/FourAskOne.java");
    private static final Path DOCUMENT = Path.of("../shared/DOC.md");

    private static int looked = 0;
    private static int wrong = 0;

    public static void main(String[] args) throws Exception {
        faceIsTheDocuments();
        membersAreHidden();
        source(Files.readString(SOURCE));
        System.out.println(looked + " things looked at, " + wrong + " wrong");
        if (wrong != 0) {
            System.exit(1);
        }
    }

    private static void must(boolean holds, String what) {
        looked++;
        if (!holds) {
            wrong++;
            System.out.println(what);
        }
    }

    private static void faceIsTheDocuments() throws Exception {
        TreeSet<String> due = new TreeSet<>();
        Matcher line = Pattern.compile("^    public (int|long) (\\w+)\\((.*)\\);$", Pattern.MULTILINE)
            .matcher(Files.readString(DOCUMENT));
        while (line.find()) {
            String types = line.group(3).replaceAll("(\\w+) \\w+", "$1").replace(" ", "");
            due.add(line.group(1) + " " + line.group(2) + "(" + types + ")");
        }
        TreeSet<String> there = new TreeSet<>();
        for (Method method : FourAskOne.class.getDeclaredMethods()) {
            if (Modifier.isPublic(method.getModifiers())) {
                List<String> types = new ArrayList<>();
                for (Class<?> type : method.getParameterTypes()) {
                    types.add(type.getName());
                }
                there.add(method.getReturnType() + " " + method.getName() + "(" + String.join(",", types) + ")");
                must(!Modifier.isStatic(method.getModifiers()), "static: " + method);
                must(method.getExceptionTypes().length == 0, "throws: " + method);
            }
        }
        must(due.size() == 46, "methods in the document: " + due.size());
        must(due.equals(there), "methods " + there + "\n  due " + due);
        must(Modifier.isFinal(FourAskOne.class.getModifiers()), "the class is not final");
        must(FourAskOne.NONE == -1, "NONE");
    }

    private static void membersAreHidden() {
        TreeSet<String> names = new TreeSet<>();
        for (Method method : FourAskOne.class.getDeclaredMethods()) {
            if (Modifier.isPublic(method.getModifiers())) {
                names.add(method.getName());
            }
        }
        for (Method method : FourAskOne.class.getDeclaredMethods()) {
            int modifiers = method.getModifiers();
            must(Modifier.isPublic(modifiers) || Modifier.isPrivate(modifiers), "rule 1: " + method);
            must(Modifier.isPublic(modifiers) || !names.contains(method.getName()), "rule 1, its name: " + method);
        }
        for (Field field : FourAskOne.class.getDeclaredFields()) {
            must(Modifier.isPrivate(field.getModifiers()) || field.getName().equals("NONE"), "rule 1: " + field);
        }
        for (Constructor<?> one : FourAskOne.class.getDeclaredConstructors()) {
            must(Modifier.isPublic(one.getModifiers()) && one.getParameterCount() == 0, "rule 1: " + one);
        }
        must(FourAskOne.class.getDeclaredClasses().length <= 11, "rule 11: classes");
        for (Class<?> inside : FourAskOne.class.getDeclaredClasses()) {
            must(Modifier.isStatic(inside.getModifiers()), "rule 2: " + inside);
            int fields = 0;
            for (Field field : inside.getDeclaredFields()) {
                fields += Modifier.isStatic(field.getModifiers()) ? 0 : 1;
                must(!Modifier.isStatic(field.getModifiers()) || Modifier.isFinal(field.getModifiers()),
                    "rule 5: " + field);
            }
            must(fields <= 20, "rule 11: fields of " + inside);
        }
    }

    private static void source(String text) {
        must(text.chars().allMatch(sign -> sign == '\n' || (sign >= 32 && sign < 127)), "rule 4: signs");
        String code = text.replaceAll("(?s)/\\*.*?\\*/", "").replaceAll("//[^\n]*", "")
            .replaceAll("\"[^\"\n]*\"", "\"\"");
        String[] ruledOut = {"->", "::", "@", "\\bthrow\\b", "\\bcatch\\b", "\\bfinally\\b", "\\bsynchronized\\b",
            "\\bassert\\b", "\\bpackage\\b", "\\bprotected\\b", "\\bvar\\b", "\\bLong\\.", "\\bSystem\\.(?!arraycopy)",
            "\\bfloat\\b", "\\bdouble\\b", "Exact\\(", "\\bhashCode\\b", "\\bequals\\b", "\\btoString\\b",
            "\\bRandom\\b", "\\bThread\\b", "\\+ *\"", "\" *\\+"};
        for (String pattern : ruledOut) {
            Matcher found = Pattern.compile(pattern).matcher(code);
            must(!found.find(), "ruled out: " + pattern);
        }
        Matcher imports = Pattern.compile("import ([\\w.]+);").matcher(code);
        while (imports.find()) {
            must(imports.group(1).equals("java.util.Arrays"), "rule 4: " + imports.group(1));
        }
        methodsAreShort(code);
    }

    private static void methodsAreShort(String code) {
        Matcher head = Pattern.compile("^( +)[\\w\\[\\] ]+\\(([^()]*)\\) \\{$", Pattern.MULTILINE).matcher(code);
        int methods = 0;
        while (head.find()) {
            String rest = code.substring(head.end());
            int end = rest.indexOf("\n" + head.group(1) + "}");
            must(end >= 0 && rest.substring(0, end).lines().count() <= 60, "rule 11, lines: " + head.group());
            must(head.group(2).split(",").length <= 7, "rule 11, parameters: " + head.group());
            methods++;
        }
        must(methods > 100, "methods read: " + methods);
    }
}
