import java.lang.reflect.InvocationTargetException;
import java.lang.reflect.Method;
import java.lang.reflect.Modifier;
import java.util.ArrayList;
import java.util.HashMap;
import java.util.List;
import java.util.Map;
import java.util.regex.Matcher;
import java.util.regex.Pattern;

/**
 * A run of calls on a new object, written as text, for one sentence of the
 * document. Calls stand on lines of their own, or with | between:
 *
 *   name(1, 2)         is made, and must not be refused
 *   name(1, 2) = 3     answers 3
 *   name(1, 2) ? 3     answers 3 and changes nothing
 *   name(1, 2) ?       answers what it likes, and changes nothing
 *   name(1, 2) ! BAD   is refused so, and changes nothing
 *   tape "a text"      its bytes come on the tape; ~ stands for byte 10
 *   rich, full         see RICH, FULL
 *
 * Whether a call changes nothing is asked of Twins.
 */
final class Script {
    /** A call of the face, to be made on any object. */
    record Call(String name, int... arguments) {
        /** Makes it on an object, or on the model of one. */
        long on(Object x) {
            Method method = FACES.computeIfAbsent(x.getClass(), Script::face).get(name);
            if (method == null || method.getParameterCount() != arguments.length) {
                throw new IllegalArgumentException("no such call: " + this);
            }
            Object[] values = new Object[arguments.length];
            for (int i = 0; i < values.length; i++) {
                values[i] = arguments[i];
            }
            try {
                return ((Number) method.invoke(x, values)).longValue();
            } catch (InvocationTargetException thrown) {
                throw new IllegalStateException(this + " threw " + thrown.getCause(), thrown);
            } catch (IllegalAccessException hidden) {
                throw new IllegalStateException(hidden);
            }
        }

        @Override
        public String toString() {
            StringBuilder text = new StringBuilder(name).append('(');
            for (int i = 0; i < arguments.length; i++) {
                text.append(i == 0 ? "" : ", ").append(arguments[i]);
            }
            return text.append(')').toString();
        }
    }

    /** Something of all there can be, and all unlike what a new object has. */
    static final String RICH = """
        table(9, 4) | heap(1, 0, 1) | heap(4, 511, 9) | heap(5, 3, 0)
        tape "turns 7;swaps 8;looks 9;"
        text() = 1 | force(1) = 0 | turn(6) = 6 | image() = 6
        heap(0, 5, 0) | turn(35) = 37 | force(0) = 1
        tape "turns 31;sw"
        sheet(0, 2, 4) | cell(0, 0, 1) | cell(0, 1, 2) | cell(0, 2, 3) | cell(0, 3, 4)
        sheet(1, 0, 3) | cell(1, 1, 5)
        sheet(2, 1, 6) | cell(2, 5, 9)
        """;

    /** Seven heaps, six texts, 160 bytes. */
    static final String FULL = """
        table(12, 5) | turn(2741)
        heap(0, 4095, 9) | heap(1, 1, 2) | heap(2, 2, 3) | heap(3, 3, 4) | heap(4, 4095, 9) | heap(5, 5, 6) | heap(0, 0, 0)
        tape "turns 1;swaps 11;looks 21;"
        text() = 1
        tape "turns 2;swaps 12;looks 22;"
        text() = 2
        tape "turns 3;swaps 13;looks 23;"
        text() = 3
        tape "turns 4;swaps 14;looks 24;"
        text() = 4
        tape "turns 5;swaps 15;looks 25;"
        text() = 5 | force(4) = 0
        tape "turns 6;swaps 16;looks 26;%s"
        count(3) = 7 | count(4) = 6 | count(6) = 160
        """.formatted(" ".repeat(134));

    private static final Map<Class<?>, Map<String, Method>> FACES = new HashMap<>();
    private static final Map<String, Long> NAMED = Map.of("NONE", -1L, "BAD", -2L, "STATE", -3L, "FULL", -4L,
        "NO", -4611686018427387904L, "MIN", (long) Integer.MIN_VALUE, "MAX", (long) Integer.MAX_VALUE);
    private static final Pattern STEP = Pattern.compile("(\\w+)\\(([^)]*)\\)(?:\\s*([=!?])\\s*(\\S*))?");

    private final String sentence;
    private final OneTurned x = new OneTurned();
    private final List<Call> made = new ArrayList<>();

    private Script(String sentence) {
        this.sentence = sentence;
    }

    static void check(String sentence, String... calls) {
        Script script = new Script(sentence);
        for (String some : calls) {
            script.run(some);
        }
    }

    /** The calls of a run, once they have answered as is due. */
    static List<Call> calls(String sentence, String calls) {
        Script script = new Script(sentence);
        script.run(calls);
        return List.copyOf(script.made);
    }

    /** Texts that are texts. */
    static void fine(String sentence, String... texts) {
        for (String text : texts) {
            check(sentence, "tape \"" + text + "\"\ntext() = 1 | count(4) = 2 | count(6) = 0");
        }
    }

    /** In each text @ stands ahead of the fault; it does not come on the tape. */
    static void fault(String sentence, String... texts) {
        for (String text : texts) {
            check(sentence, "tape \"" + text.replace("@", "") + "\"\ntext() = " + (-100 - text.indexOf('@'))
                + " | count(4) = 1 | count(6) = 0");
        }
    }

    private static Map<String, Method> face(Class<?> type) {
        Map<String, Method> face = new HashMap<>();
        for (Method method : type.getDeclaredMethods()) {
            if (Modifier.isPublic(method.getModifiers())) {
                face.put(method.getName(), method);
            }
        }
        return face;
    }

    private void run(String calls) {
        for (String line : calls.split("\n")) {
            String bare = line.strip();
            if (bare.startsWith("tape ")) {
                feed(bare.substring(bare.indexOf('"') + 1, bare.lastIndexOf('"')).replace('~', '\n'));
            } else if (bare.equals("rich")) {
                run(RICH);
            } else if (bare.equals("full")) {
                run(FULL);
            } else {
                for (String step : bare.split("\\|")) {
                    if (!step.isBlank()) {
                        step(step.strip());
                    }
                }
            }
        }
    }

    private void feed(String text) {
        for (int i = 0; i < text.length(); i += 5) {
            int n = Math.min(5, text.length() - i);
            int[] arguments = {n, 0, 0, 0, 0, 0};
            for (int k = 0; k < n; k++) {
                arguments[k + 1] = text.charAt(i + k);
            }
            Call call = new Call("feed", arguments);
            due(call, call.on(x) >= 0, "was refused");
            made.add(call);
        }
    }

    private void step(String step) {
        Matcher parts = STEP.matcher(step);
        if (!parts.matches()) {
            throw new IllegalArgumentException(sentence + ": what is " + step + "?");
        }
        Call call = new Call(parts.group(1), numbers(parts.group(2)));
        String sign = parts.group(3) == null ? "" : parts.group(3);
        String want = parts.group(4) == null ? "" : parts.group(4);
        long got = call.on(x);
        if (!want.isEmpty()) {
            due(call, got == number(want), "answered " + got + ", due is " + want);
        } else if (sign.isEmpty()) {
            due(call, got >= 0, "was refused: " + got);
        }
        if (sign.equals("!")) {
            due(call, got < 0, "was not refused");
        }
        if (sign.equals("!") || sign.equals("?")) {
            String difference = Twins.difference(made, call);
            due(call, difference.isEmpty(), "changed something: " + difference);
        }
        made.add(call);
    }

    private void due(Call call, boolean isSo, String what) {
        Due.holds(sentence + ": " + call + " " + what + (isSo ? "" : ", after " + made), isSo);
    }

    private static int[] numbers(String list) {
        if (list.isBlank()) {
            return new int[0];
        }
        String[] each = list.split(",");
        int[] numbers = new int[each.length];
        for (int i = 0; i < each.length; i++) {
            numbers[i] = (int) number(each[i].strip());
        }
        return numbers;
    }

    private static long number(String text) {
        if (NAMED.containsKey(text)) {
            return NAMED.get(text);
        }
        return text.startsWith("0b") ? Long.parseLong(text.substring(2), 2) : Long.decode(text);
    }
}
