import java.io.IOException;
import java.lang.reflect.Constructor;
import java.lang.reflect.Field;
import java.lang.reflect.Method;
import java.lang.reflect.Modifier;
import java.nio.file.Files;
import java.nio.file.Paths;
import java.util.Arrays;
import java.util.List;
import java.util.Set;
import java.util.TreeSet;
import java.util.regex.Matcher;
import java.util.regex.Pattern;

/** The rules of LANGUAGE.md that can be seen from outside or from the source's words. */
public final class RulesTest {
    private static final Set<String> FACE = new TreeSet<>(Arrays.asList(
            "int feed(int,int,int,int,int)", "int build(int)", "int fault(int)", "boolean restart()", "int input(int)",
            "int run(int)", "int output(int)", "int clear()", "boolean global(int)", "boolean go(int)",
            "boolean mark(int)", "boolean same(int)", "int at(int)", "int count(int)"));

    public static void main(String[] args) throws IOException {
        String file = args.length > 0 ? args[0] : "src/main/java/BracketTongue.java";
        List<String> lines = Files.readAllLines(Paths.get(file));
        face();
        for (Class<?> inner : BracketTongue.class.getDeclaredClasses()) {
            innerClass(inner);
        }
        words(lines);
        lengths(lines);
        Check.end("RulesTest");
    }

    private static String shown(Method m) {
        StringBuilder types = new StringBuilder();
        for (Class<?> type : m.getParameterTypes()) {
            types.append(types.length() == 0 ? "" : ",").append(type.getSimpleName());
        }
        return m.getReturnType().getSimpleName() + " " + m.getName() + "(" + types + ")";
    }

    private static void face() {
        Set<String> found = new TreeSet<>();
        for (Method m : BracketTongue.class.getDeclaredMethods()) {
            boolean isPublic = Modifier.isPublic(m.getModifiers());
            Check.due(m + " is public or private", isPublic || Modifier.isPrivate(m.getModifiers()), true);
            if (isPublic) {
                found.add(shown(m));
            }
            parameters(m);
        }
        Check.due("the face " + found, found.equals(FACE), true);
        Check.due("the class is public and final",
                BracketTongue.class.getModifiers() == (Modifier.PUBLIC | Modifier.FINAL), true);
        Constructor<?>[] makers = BracketTongue.class.getDeclaredConstructors();
        Check.due("one constructor", makers.length == 1 && makers[0].getParameterCount() == 0
                && Modifier.isPublic(makers[0].getModifiers()), true);
        int fields = 0;
        for (Field f : BracketTongue.class.getDeclaredFields()) {
            boolean isNone = f.getName().equals("NONE");
            Check.due(f + " is as the face has it", Modifier.isPublic(f.getModifiers()) == isNone
                    && (isNone || Modifier.isPrivate(f.getModifiers())), true);
            fields += staticIsConstant(f) ? 0 : 1;
        }
        Check.due("fields " + fields, fields <= 20, true);
    }

    private static boolean staticIsConstant(Field f) {
        boolean isStatic = Modifier.isStatic(f.getModifiers());
        if (isStatic) {
            Check.due(f + " is final", Modifier.isFinal(f.getModifiers()), true);
            Check.due(f + " is a constant", f.getType().isPrimitive() || f.getType() == String.class, true);
        }
        return isStatic;
    }

    private static void parameters(Method m) {
        Check.due(m + " has at most seven parameters", m.getParameterCount() <= 7, true);
    }

    private static void innerClass(Class<?> inner) {
        Check.due(inner + " is static", Modifier.isStatic(inner.getModifiers()), true);
        Check.due(inner + " is not public", Modifier.isPublic(inner.getModifiers()), false);
        int fields = 0;
        for (Field f : inner.getDeclaredFields()) {
            fields += staticIsConstant(f) ? 0 : 1;
        }
        Check.due("fields of " + inner + " " + fields, fields <= 20, true);
        for (Method m : inner.getDeclaredMethods()) {
            parameters(m);
            for (String of : FACE) {
                Check.due(m + " has no name of the face", of.contains(" " + m.getName() + "("), false);
            }
        }
    }

    /** The line without comments, texts and signs, so that only code is looked at. */
    private static String code(String line) {
        String bare = line.replaceAll("\"[^\"]*\"", "\"\"").replaceAll("'(\\\\.|[^'])'", "' '");
        if (bare.trim().startsWith("*") || bare.trim().startsWith("/*")) {
            return "";
        }
        return bare.replaceAll("//.*", "");
    }

    private static void words(List<String> lines) {
        Pattern never = Pattern.compile("\\b(throw|throws|try|catch|synchronized|assert|package|protected|instanceof Object"
                + "|hashCode|equals|toString|Exception|var|double|float|static \\{)\\b|->|::|\\w+Exact\\b");
        int classes = 0;
        for (int i = 0; i < lines.size(); i++) {
            String line = code(lines.get(i));
            Check.due("line " + (i + 1) + ": " + line, never.matcher(line).find(), false);
            if (line.startsWith("import ")) {
                Check.due(line, line.equals("import java.util.Arrays;"), true);
            }
            Matcher library = Pattern.compile("\\b(System|Arrays|Math|Integer|Long)\\.(\\w+)").matcher(line);
            while (library.find()) {
                Check.due(line, Arrays.asList("System.arraycopy", "Arrays.copyOf", "Arrays.fill", "Math.min", "Math.max",
                        "Math.floorMod").contains(library.group()), true);
            }
            classes += line.contains(" class ") ? 1 : 0;
        }
        Check.due("classes " + classes, classes <= 12, true);
    }

    private static void lengths(List<String> lines) {
        int start = -1;
        String end = "";
        for (int i = 0; i < lines.size(); i++) {
            Matcher opens = Pattern.compile("^( {4}| {8})(?!.*\\bclass\\b)\\w.*\\) \\{$").matcher(lines.get(i));
            if (start < 0 && opens.find()) {
                start = i;
                end = opens.group(1) + "}";
            } else if (start >= 0 && lines.get(i).equals(end)) {
                Check.due("lines of " + lines.get(start).trim() + " " + (i - start + 1), i - start + 1 <= 60, true);
                start = -1;
            }
        }
        Check.due("the last method ends", start, -1);
    }
}
