import java.lang.reflect.Constructor;
import java.lang.reflect.Field;
import java.lang.reflect.Member;
import java.lang.reflect.Method;
import java.lang.reflect.Modifier;
import java.nio.file.Files;
import java.nio.file.Path;
import java.util.ArrayList;
import java.util.Arrays;
import java.util.List;
import java.util.Set;
import java.util.TreeSet;
import java.util.regex.Matcher;
import java.util.regex.Pattern;

/** The public face, and what of the rules of LANGUAGE.md can be read off the class and its text. */
public final class FaceTest {
    private static final String[] FACE = {
        "int type(int)", "int clear()", "int tells()", "int spells(int,int,int,int)", "int capacity(int)",
        "int inserts(int)", "int repeats(int)", "int puts(int)", "int takes()", "int sends(int)", "int cost(int)",
        "int loose()", "int feeds(int)", "int gives(int,int)", "int quits(int)", "int grows()", "int hears(int)",
        "int table(int,int)", "int entry(int,int,int)", "long holds(int)", "int letter(int,int)", "int got(int,int)",
        "int waits(int)", "int octet(int,int)", "long coded(int,int)", "int number(int)", "int count(int)",
    };

    public static void main(String[] args) throws Exception {
        String code = Files.readString(Path.of(args.length > 0 ? args[0] : "src/main/java/HeadTables.java"));
        constants();
        face();
        asTheDocumentWritesIt(code);
        insideClasses();
        text(code);
        Due.finish();
    }

    private static void constants() {
        Due.due("BAD", HeadTables.BAD, -1);
        Due.due("STATE", HeadTables.STATE, -2);
        Due.due("FULL", HeadTables.FULL, -3);
        Due.due("NONE", HeadTables.NONE, -9);
    }

    private static void face() {
        Due.due("final", Modifier.isFinal(HeadTables.class.getModifiers()) ? 1 : 0, 1);
        Set<String> methods = new TreeSet<>();
        for (Method method : HeadTables.class.getDeclaredMethods()) {
            if (!Modifier.isPrivate(method.getModifiers()) && !method.isSynthetic()) {
                Due.due(method + " is public", Modifier.isPublic(method.getModifiers()) ? 1 : 0, 1);
                methods.add(signature(method));
            }
        }
        Due.dueText("methods", methods.toString(), new TreeSet<>(Arrays.asList(FACE)).toString());
        Set<String> fields = new TreeSet<>();
        for (Field field : HeadTables.class.getDeclaredFields()) {
            if (!Modifier.isPrivate(field.getModifiers()) && !field.isSynthetic()) {
                fields.add(Modifier.toString(field.getModifiers()) + " " + field.getType() + " " + field.getName());
            }
        }
        Due.dueText("constants", fields.toString(),
            "[public static final int BAD, public static final int FULL, public static final int NONE, public static final int STATE]");
        Constructor<?>[] constructors = HeadTables.class.getDeclaredConstructors();
        Due.due("constructors", constructors.length, 1);
        Due.due("parameters", constructors[0].getParameterCount(), 0);
    }

    private static String signature(Method method) {
        List<String> types = new ArrayList<>();
        for (Class<?> type : method.getParameterTypes()) {
            types.add(type.getName());
        }
        return method.getReturnType() + " " + method.getName() + "(" + String.join(",", types) + ")";
    }

    /** Also the names of the parameters, which a call cannot tell. */
    private static void asTheDocumentWritesIt(String code) {
        List<String> face = Document.face();
        Due.due("lines of the face", face.isEmpty() ? FACE.length + 3 : face.size(), FACE.length + 3);
        for (String line : face) {
            Due.due(line, code.contains("\n" + line.replace(");", ") {") + "\n") ? 1 : 0, 1);
        }
    }

    private static void insideClasses() {
        Set<String> publicNames = new TreeSet<>();
        for (String method : FACE) {
            publicNames.add(method.substring(method.indexOf(' ') + 1, method.indexOf('(')));
        }
        Due.due("at most twelve classes", HeadTables.class.getDeclaredClasses().length <= 11 ? 1 : 0, 1);
        List<Class<?>> all = new ArrayList<>(Arrays.asList(HeadTables.class.getDeclaredClasses()));
        for (Class<?> inside : all) {
            int modifiers = inside.getModifiers();
            Due.due(inside + " is static", Modifier.isStatic(modifiers) ? 1 : 0, 1);
            Due.due(inside + " is not public", Modifier.isPublic(modifiers) || Modifier.isProtected(modifiers) ? 1 : 0, 0);
        }
        all.add(HeadTables.class);
        for (Class<?> each : all) {
            int fields = 0;
            for (Field field : each.getDeclaredFields()) {
                dueFinalIfStatic(field);
                fields += Modifier.isStatic(field.getModifiers()) ? 0 : 1;
            }
            Due.due(each + " has at most twenty fields", fields <= 20 ? 1 : 0, 1);
            for (Method method : each.getDeclaredMethods()) {
                Due.due(method + ": parameters", method.getParameterCount() <= 7 ? 1 : 0, 1);
                if (Modifier.isPrivate(method.getModifiers()) || each != HeadTables.class) {
                    Due.due(method + ": a public name", publicNames.contains(method.getName()) ? 1 : 0, 0);
                }
            }
        }
    }

    private static void dueFinalIfStatic(Member field) {
        boolean right = !Modifier.isStatic(field.getModifiers()) || Modifier.isFinal(field.getModifiers());
        Due.due(field + " is final", right ? 1 : 0, 1);
    }

    private static void text(String code) {
        for (int i = 0; i < code.length(); i++) {
            if (code.charAt(i) > 126) {
                Due.due("sign " + i, code.charAt(i), 126);
            }
        }
        String bare = code.replaceAll("(?s)/\\*.*?\\*/", " ").replaceAll("//[^\n]*", " ").replaceAll("\"[^\"\n]*\"", "\"\"");
        String[] words = {"throw", "throws", "try", "catch", "finally", "synchronized", "assert", "package", "protected", "volatile", "native",
            "Thread", "Random", "hashCode", "toString", "nanoTime", "currentTimeMillis"};
        for (String word : words) {
            Due.due("word " + word, count(bare, "\\b" + word + "\\b"), 0);
        }
        Due.due("imports", count(bare, "\\bimport\\b"), count(bare, "\\bimport java\\.util\\.(ArrayList|List|Arrays|Iterator);"));
        Due.due("System", count(bare, "\\bSystem\\b"), count(bare, "\\bSystem\\.arraycopy\\("));
        Due.due("lambda", count(bare, "(?m)^(?!\\s*(case|default)\\b).*->"), 0);
        Due.due("method reference", count(bare, "::"), 0);
        Due.due("functions that throw", count(bare, "\\w+Exact\\("), 0);
        methodLengths(bare);
    }

    private static int count(String bare, String pattern) {
        return (int) Pattern.compile(pattern).matcher(bare).results().count();
    }

    /** A method begins with four or eight blanks and ends with the same and a brace. */
    private static void methodLengths(String bare) {
        String[] lines = bare.split("\n", -1);
        for (int i = 0; i < lines.length; i++) {
            Matcher head = Pattern.compile("^( {4}| {8})(?=\\S)(?!private static final class)[\\w ]+[\\w\\[\\]]+\\(.*\\) \\{$").matcher(lines[i]);
            if (head.find()) {
                int end = i;
                while (end < lines.length && !lines[end].equals(head.group(1) + "}")) {
                    end++;
                }
                Due.due("lines of " + lines[i].trim(), end - i < 60 ? 1 : 0, 1);
            }
        }
    }
}
