import java.lang.reflect.Method;
import java.util.ArrayList;
import java.util.Arrays;
import java.util.Comparator;
import java.util.List;
import java.util.Map;
import java.util.Random;
import java.util.TreeMap;

/** Runs of calls by lot (always the same ones), each answer compared with Model's. */
public final class ModelTest {
    private static final int RUNS = 400, CALLS = 512, TOLD_AT_MOST = 20;
    private static final int[] WILD = {Integer.MIN_VALUE, -2147483647, -100, -3, -2, -1, 0, 1, 2, 3, 7, 8, 9, 11, 12, 13,
        18, 19, 40, 41, 255, 256, 4095, 4096, 9999, 10000, 99999, 100000, Integer.MAX_VALUE - 1, Integer.MAX_VALUE};

    /** How often what changes something is called, beside what asks: others once. */
    private static final Map<String, Integer> OFTEN = Map.of("heap", 5, "turn", 4, "table", 2, "cell", 12, "sheet", 3,
        "force", 4, "heapsBy", 4, "film", 2, "copy", 6, "even", 2);

    private static int told = 0;
    private static final Map<String, Integer> answered = new TreeMap<>();

    public static void main(String[] args) throws Exception {
        List<Method> face = new ArrayList<>();
        for (Method method : OneTurned.class.getDeclaredMethods()) {
            if (java.lang.reflect.Modifier.isPublic(method.getModifiers())) {
                for (int i = 0; i < OFTEN.getOrDefault(method.getName(), 1); i++) {
                    face.add(method);
                }
            }
        }
        face.sort(Comparator.comparing(Method::getName));
        int runs = args.length > 0 ? Integer.parseInt(args[0]) : RUNS;
        for (int run = 0; run < runs && told < TOLD_AT_MOST; run++) {
            run(run, face);
        }
        texts();
        for (Method method : face) {
            Due.holds(method.getName() + " was answered", answered.getOrDefault(method.getName(), 0) > 20);
        }
        Due.end();
    }

    private static void run(int run, List<Method> face) throws Exception {
        Random lot = new Random(1000003L * run + 17);
        OneTurned x = new OneTurned();
        Model model = new Model();
        List<String> calls = new ArrayList<>();
        int made = 0;
        while (made < CALLS) {
            if (lot.nextInt(60) == 0 && made < CALLS - 40) {
                made += feedText(Texts.byLot(lot), x, model, calls);
                made += same("text", new int[0], x, model, calls);
            } else {
                Method method = face.get(lot.nextInt(face.size()));
                int[] arguments = lot.nextInt(12) == 0
                    ? wild(method.getParameterCount(), lot)
                    : fitting(method.getName(), model, lot);
                made += same(method.getName(), arguments, x, model, calls);
            }
        }
    }

    private static int feedText(String text, OneTurned x, Model model, List<String> calls) throws Exception {
        int made = 0;
        for (int i = 0; i < text.length(); i += 5) {
            int[] arguments = new int[6];
            arguments[0] = Math.min(5, text.length() - i);
            for (int k = 0; k < arguments[0]; k++) {
                arguments[k + 1] = text.charAt(i + k);
            }
            made += same("feed", arguments, x, model, calls);
        }
        return made;
    }

    /** Many texts, each on an object of its own, so that FULL does not hide them. */
    private static void texts() throws Exception {
        Random lot = new Random(99);
        for (int i = 0; i < 6000 && told < TOLD_AT_MOST; i++) {
            OneTurned x = new OneTurned();
            Model model = new Model();
            List<String> calls = new ArrayList<>();
            int n = 1 + lot.nextInt(12);
            same("table", new int[] {n, 1 + lot.nextInt(12)}, x, model, calls);
            same("heap", new int[] {lot.nextInt(6), lot.nextInt(4096), lot.nextInt(10)}, x, model, calls);
            same("turn", new int[] {lot.nextInt(1 << n)}, x, model, calls);
            feedText(Texts.byLot(lot), x, model, calls);
            same("text", new int[0], x, model, calls);
            same("force", new int[] {1}, x, model, calls);
            for (int c = 0; c < n; c++) {
                for (int part = 0; part < 3; part++) {
                    same("asks", new int[] {part, c}, x, model, calls);
                }
            }
        }
    }

    private static int same(String name, int[] arguments, OneTurned x, Model model, List<String> calls) throws Exception {
        Class<?>[] types = new Class<?>[arguments.length];
        Arrays.fill(types, int.class);
        Object[] values = Arrays.stream(arguments).boxed().toArray();
        long got = ((Number) OneTurned.class.getMethod(name, types).invoke(x, values)).longValue();
        long want = ((Number) Model.class.getMethod(name, types).invoke(model, values)).longValue();
        String call = name + Arrays.toString(arguments);
        calls.add(call + " = " + want);
        if (want >= -1) {
            answered.merge(name, 1, Integer::sum);
        }
        if (got != want) {
            told++;
            System.out.println("after " + calls.subList(Math.max(0, calls.size() - 40), calls.size()));
        }
        Due.due(call, got, want);
        return 1;
    }

    private static int[] wild(int many, Random lot) {
        int[] arguments = new int[many];
        for (int i = 0; i < many; i++) {
            arguments[i] = WILD[lot.nextInt(WILD.length)];
        }
        return arguments;
    }

    /** Arguments that are mostly as told: one past the edge at each side now and then. */
    private static int[] fitting(String name, Model model, Random lot) {
        int n = model.count(0);
        int h = model.count(3);
        int card = within(n, lot);
        int set = lot.nextInt(1 << n);
        int sheet = lot.nextInt(40) == 0 ? 4 : lot.nextInt(4);
        return switch (name) {
            case "table" -> new int[] {edge(1, 12, lot), edge(1, 12, lot)};
            case "swap", "move" -> new int[] {card, within(n, lot)};
            case "feed" -> new int[] {edge(1, 5, lot), 97 + lot.nextInt(26), 32, 48 + lot.nextInt(10), 59, lot.nextInt(257)};
            case "force" -> new int[] {within(model.count(4), lot)};
            case "asks" -> new int[] {within(3, lot), card};
            case "heap" -> new int[] {edge(0, 5, lot), lot.nextInt(4) == 0 ? lot.nextInt(16) : lot.nextInt(4096), edge(0, 9, lot)};
            case "told" -> new int[] {within(h, lot), within(5, lot)};
            case "counts" -> new int[] {edge(0, 12, lot)};
            case "lay" -> new int[] {set, within(2, lot)};
            case "turn", "look", "even" -> new int[] {lot.nextInt(20) == 0 ? 1 << n : set};
            case "needs" -> new int[] {lot.nextInt(2) == 0 ? lot.nextInt(10000) : (1 << lot.nextInt(14)) + lot.nextInt(31) - 20};
            case "can" -> new int[] {lot.nextInt(2) == 0 ? 1 + lot.nextInt(99999) : 1 << lot.nextInt(18)};
            case "coin", "cut" -> new int[] {card};
            case "swept" -> new int[] {within((n + model.count(1) - 1) / model.count(1), lot), within(3, lot)};
            case "right" -> new int[] {within(2, lot)};
            case "judge", "film" -> new int[] {sheet};
            case "match" -> new int[] {sheet, within(4, lot)};
            case "tells" -> new int[] {sheet, set, within(2, lot)};
            case "evening" -> new int[] {edge(0, 99999, lot), within(2, lot)};
            case "odds" -> new int[] {edge(0, 99999, lot), edge(1, 50, lot), within(2, lot)};
            case "sheet" -> new int[] {sheet, edge(-1, 2, lot), lot.nextInt(3) == 0 ? edge(0, 40, lot) : h};
            case "cell" -> new int[] {sheet, lot.nextInt(8), lot.nextInt(4) == 0 ? lot.nextInt() : lot.nextInt(5)};
            case "copy" -> new int[] {sheet, lot.nextInt(5) - 1, lot.nextInt(4), lot.nextInt(5) - 1, lot.nextInt(6) - 1};
            case "heapsBy" -> new int[] {sheet, edge(0, 2, lot), edge(0, 5, lot), lot.nextInt(4)};
            case "taken" -> new int[] {edge(0, 18, lot), edge(0, 6, lot)};
            case "text", "drop", "one", "reads", "lies", "idle", "image", "back" -> new int[0];
            default -> new int[] {within(3, lot)};
        };
    }

    private static int edge(int least, int most, Random lot) {
        int which = lot.nextInt(40);
        return which == 0 ? least - 1 : which == 1 ? most + 1 : which == 2 ? least : which == 3 ? most
            : least + lot.nextInt(most - least + 1);
    }

    private static int within(int many, Random lot) {
        return many < 1 ? lot.nextInt(3) - 1 : edge(0, many - 1, lot);
    }
}
