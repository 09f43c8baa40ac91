import java.io.IOException;
import java.lang.reflect.Field;
import java.lang.reflect.Method;
import java.lang.reflect.Modifier;
import java.nio.file.Files;
import java.nio.file.Path;
import java.util.ArrayList;
import java.util.Arrays;
import java.util.List;
import java.util.TreeSet;
import java.util.regex.Pattern;

/** The public face, and those rules of LANGUAGE.md that can be read off the class or its source. */
public final class FaceTest {
    private static final Due TEST = new Due("FaceTest");
    private static final String[] METHODS = {
        "boolean feed(int,int)", "int block(int,int)", "boolean set(int,int)", "void forget()", "int state(int)",
        "int group(int)", "int programme(int)", "int reports(int)", "int letter(int,int)", "int marks(int)",
        "int frequency(int)", "int time(int)", "int oda(int,int)", "int tag(int)", "int other(int,int)",
        "int otherLetter(int,int)"};

    public static void main(String[] args) throws IOException {
        face();
        names();
        nestedClasses();
        source(Files.readString(Path.of("src/main/java/RdsDesk.java")));
        TEST.end();
    }

    private static String signature(Method method) {
        List<String> parameters = new ArrayList<>();
        for (Class<?> type : method.getParameterTypes()) {
            parameters.add(type.getName());
        }
        return method.getReturnType().getName() + " " + method.getName() + "(" + String.join(",", parameters) + ")";
    }

    private static void face() {
        TEST.about("the face");
        TEST.due("public and final", RdsDesk.class.getModifiers(), Modifier.PUBLIC | Modifier.FINAL);
        TEST.due("constructors", RdsDesk.class.getDeclaredConstructors().length, 1);
        TEST.due("public constructors", RdsDesk.class.getConstructors().length, 1);
        TreeSet<String> open = new TreeSet<>();
        for (Method method : RdsDesk.class.getDeclaredMethods()) {
            if (!Modifier.isPrivate(method.getModifiers())) {
                open.add(signature(method));
            }
        }
        TEST.due("methods are the document's: " + open, open.equals(new TreeSet<>(Arrays.asList(METHODS))), true);
        for (Field field : RdsDesk.class.getDeclaredFields()) {
            boolean isOpen = !Modifier.isPrivate(field.getModifiers());
            TEST.due("field " + field.getName() + " is open", isOpen, field.getName().equals("NONE"));
        }
    }

    private static List<Class<?>> classes() {
        List<Class<?>> all = new ArrayList<>(Arrays.asList(RdsDesk.class.getDeclaredClasses()));
        all.add(RdsDesk.class);
        return all;
    }

    private static void names() {
        TEST.about("rule 1: no private method bears the name of a public one");
        TreeSet<String> open = new TreeSet<>();
        for (Method method : RdsDesk.class.getMethods()) {
            if (method.getDeclaringClass() == RdsDesk.class) {
                open.add(method.getName());
            }
        }
        for (Class<?> type : classes()) {
            for (Method method : type.getDeclaredMethods()) {
                boolean isOpen = Modifier.isPublic(method.getModifiers());
                TEST.due(type.getName() + "." + method.getName(), !isOpen && open.contains(method.getName()), false);
                TEST.due(method.getName() + ": parameters", method.getParameterCount() <= 7, true);
            }
        }
    }

    private static void nestedClasses() {
        TEST.about("rules 2, 5, 11: classes inside");
        TEST.due("at most twelve", classes().size() <= 12, true);
        for (Class<?> type : classes()) {
            int held = 0;
            for (Field field : type.getDeclaredFields()) {
                boolean isStatic = Modifier.isStatic(field.getModifiers());
                held += isStatic ? 0 : 1;
                TEST.due(type.getName() + "." + field.getName() + " is static and not final",
                        isStatic && !Modifier.isFinal(field.getModifiers()), false);
            }
            TEST.due(type.getName() + ": at most twenty fields", held <= 20, true);
            if (type != RdsDesk.class) {
                TEST.due(type.getName() + " is static", Modifier.isStatic(type.getModifiers()), true);
            }
        }
    }

    private static void source(String text) {
        TEST.about("rules 2, 4, 6 of the source");
        String code = Pattern.compile("/\\*.*?\\*/|//[^\n]*", Pattern.DOTALL).matcher(text).replaceAll("");
        String[] never = {"\\bthrow\\b", "\\bthrows\\b", "\\btry\\b", "\\bcatch\\b", "\\bsynchronized\\b",
            "\\bassert\\b", "->", "::", "\\bpackage\\b", "\\bExact\\b", "Exact\\(", "\\bprotected\\b", "\\bSystem\\.(?!arraycopy)",
            "\\.equals\\(", "\\bhashCode\\b", "\\btoString\\b", "\\bdouble\\b", "\\bfloat\\b"};
        for (String words : never) {
            TEST.due(words + " found", Pattern.compile(words).matcher(code).find(), false);
        }
        TEST.due("imports", code.split("\\bimport\\b").length - 1, 1);
        TEST.due("import java.util.Arrays", code.contains("import java.util.Arrays;"), true);
        methodLengths(code);
    }

    private static void methodLengths(String code) {
        int length = 0;
        int longest = 0;
        boolean inside = false;
        for (String line : code.split("\n")) {
            if (line.matches(" {4,8}[\\w\\[\\] ]+\\(.*\\) \\{")) {
                inside = true;
                length = 0;
            }
            length++;
            if (inside && line.matches(" {4,8}\\}")) {
                longest = Math.max(longest, length);
                inside = false;
            }
        }
        TEST.due("the longest method, of " + longest + " lines, has 10 .. 60", longest >= 10 && longest <= 60, true);
    }
}
