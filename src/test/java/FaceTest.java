import java.lang.reflect.Field;
import java.lang.reflect.Method;
import java.lang.reflect.Modifier;
import java.nio.file.Files;
import java.nio.file.Path;
import java.util.ArrayList;
import java.util.Collections;
import java.util.List;
import java.util.Set;
import java.util.TreeSet;
import java.util.regex.Matcher;
import java.util.regex.Pattern;

/** The public face of the document, and those rules of LANGUAGE.md that a text tells. */
public final class FaceTest {
    private static final String[] FACE = {
        "int table(int, int)", "int turn(int)", "int swap(int, int)", "int count(int)",
        "int feed(int, int, int, int, int, int)", "int text()", "int force(int)", "int asks(int, int)",
        "int heap(int, int, int)", "int drop()", "int told(int, int)", "int signs(int)", "int look(int)", "int one()",
        "int two(int)", "int counts(int)", "int unseen(int)", "int apart(int)", "int reach(int)", "int lay(int, int)",
        "int even(int)", "int needs(int)", "int can(int)", "int reads()", "int coin(int)", "int swaps(int)",
        "int swept(int, int)", "int cut(int)", "int cuts(int)", "int move(int, int)", "int moves(int)",
        "int likely(int)", "long right(int)", "int cheapest(int)", "int lies()", "int idle()", "int judge(int)",
        "int match(int, int)", "int tells(int, int, int)", "int film(int)", "int evening(int, int)",
        "long odds(int, int, int)", "int image()", "int back()", "int sheet(int, int, int)", "int cell(int, int, int)",
        "int copy(int, int, int, int, int)", "int heapsBy(int, int, int, int)", "int taken(int, int)",
    };

    /** Words and signs that LANGUAGE.md keeps out of the class's text. */
    private static final String[] KEPT_OUT = {
        "\\bthrows?\\b", "\\btry\\b", "\\bcatch\\b", "\\bfinally\\b", "\\bsynchronized\\b", "\\bassert\\b", "->", "::",
        "\\bvar\\b", "\\bObject\\b", "\\bprotected\\b", "\\bnative\\b", "\\bvolatile\\b", "\\btransient\\b",
        "\\bpackage\\b", "\\bhashCode\\b", "Exact\\b", "@", "\\bstatic\\s*\\{", "\\bSystem\\.(?!arraycopy\\b)",
        "\\bArrays\\.(?!copyOf\\b|copyOfRange\\b|fill\\b)", "\\bimport (?!java\\.util\\.Arrays;)",
    };

    private static final int MOST_LINES = 60, MOST_PARAMETERS = 7, MOST_CLASSES = 12, MOST_FIELDS = 20;

    public static void main(String[] args) throws Exception {
        face();
        constants();
        names();
        sizes();
        text();
        Due.end();
    }

    private static void face() {
        Set<String> due = new TreeSet<>(List.of(FACE));
        Set<String> found = new TreeSet<>();
        for (Method method : OneTurned.class.getDeclaredMethods()) {
            if (Modifier.isPublic(method.getModifiers())) {
                found.add(signature(method));
            }
            Due.holds(method + " is public or private",
                Modifier.isPublic(method.getModifiers()) || Modifier.isPrivate(method.getModifiers()));
        }
        Due.holds("the face is " + due + ", not " + found, due.equals(found));
        Due.due("public constructors", OneTurned.class.getConstructors().length, 1);
        Due.due("constructors", OneTurned.class.getDeclaredConstructors().length, 1);
        Due.holds("the class is final", Modifier.isFinal(OneTurned.class.getModifiers()));
    }

    private static String signature(Method method) {
        List<String> parameters = new ArrayList<>();
        for (Class<?> type : method.getParameterTypes()) {
            parameters.add(type.getName());
        }
        return method.getReturnType().getName() + " " + method.getName() + "(" + String.join(", ", parameters) + ")";
    }

    private static void constants() {
        Due.due("NONE", OneTurned.NONE, -1);
        Due.due("BAD", OneTurned.BAD, -2);
        Due.due("STATE", OneTurned.STATE, -3);
        Due.due("FULL", OneTurned.FULL, -4);
        Due.due("NO", OneTurned.NO, -4611686018427387904L);
        Set<String> shown = new TreeSet<>();
        for (Field field : OneTurned.class.getDeclaredFields()) {
            if (!Modifier.isPrivate(field.getModifiers())) {
                shown.add(field.getName());
            }
            Due.holds("static " + field + " is final",
                !Modifier.isStatic(field.getModifiers()) || Modifier.isFinal(field.getModifiers()));
        }
        Due.holds("shown fields " + shown, shown.equals(new TreeSet<>(List.of("NONE", "BAD", "STATE", "FULL", "NO"))));
    }

    private static void names() {
        Set<String> shown = new TreeSet<>();
        for (Method method : OneTurned.class.getDeclaredMethods()) {
            if (Modifier.isPublic(method.getModifiers())) {
                shown.add(method.getName());
            }
        }
        for (Class<?> type : allClasses()) {
            for (Method method : type.getDeclaredMethods()) {
                boolean isFace = type == OneTurned.class && Modifier.isPublic(method.getModifiers());
                Due.holds(method + " bears a name of its own", isFace || !shown.contains(method.getName()));
            }
        }
    }

    private static void sizes() {
        List<Class<?>> classes = allClasses();
        Due.holds("no more than twelve classes: " + classes.size(), classes.size() <= MOST_CLASSES);
        for (Class<?> type : classes) {
            int fields = 0;
            for (Field field : type.getDeclaredFields()) {
                fields += Modifier.isStatic(field.getModifiers()) ? 0 : 1;
            }
            Due.holds(type + " has no more than twenty fields", fields <= MOST_FIELDS);
            for (Method method : type.getDeclaredMethods()) {
                Due.holds(method + " takes no more than seven", method.getParameterCount() <= MOST_PARAMETERS);
            }
            Due.holds(type + " is static", type == OneTurned.class || Modifier.isStatic(type.getModifiers()));
        }
    }

    private static List<Class<?>> allClasses() {
        List<Class<?>> classes = new ArrayList<>();
        classes.add(OneTurned.class);
        Collections.addAll(classes, OneTurned.class.getDeclaredClasses());
        return classes;
    }

    private static void text() throws Exception {
        Path path = Path.of(System.getProperty("oneturned.root", "."), "src/main/java/OneTurned.java");
        String bare = withoutComments(Files.readString(path));
        for (String sign : KEPT_OUT) {
            Matcher matcher = Pattern.compile(sign).matcher(bare);
            Due.holds("the text has no " + sign, !matcher.find());
        }
        Due.holds("all signs are 1 to 127", bare.chars().allMatch(c -> c >= 1 && c <= 127));
        methodLines(bare);
    }

    private static String withoutComments(String text) {
        return text.replaceAll("(?s)/\\*.*?\\*/", "").replaceAll("//[^\n]*", "");
    }

    private static void methodLines(String text) {
        String[] lines = text.split("\n");
        int from = -1;
        String indent = "";
        for (int i = 0; i < lines.length; i++) {
            Matcher head = Pattern.compile("^( {4}| {8})[A-Za-z][^=;]*\\)\\s*\\{$").matcher(lines[i]);
            if (from < 0 && head.find()) {
                from = i;
                indent = head.group(1);
            } else if (from >= 0 && lines[i].equals(indent + "}")) {
                Due.holds(lines[from].trim() + " has no more than sixty lines", i - from + 1 <= MOST_LINES);
                from = -1;
            }
        }
    }
}
