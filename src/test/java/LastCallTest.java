import java.util.ArrayList;
import java.util.List;
import java.util.function.IntToLongFunction;

/** What is promised holds up to the 512th call after an object has been made. */
public final class LastCallTest {
    private static final int CALLS = 512;
    private static final int[] DEAREST = {4095, 9};

    public static void main(String[] args) {
        asked();
        refused();
        turned();
        tapeAndTexts();
        heapsAndImages();
        sheets();
        Due.end();
    }

    private static Script.Call call(String name, int... arguments) {
        return new Script.Call(name, arguments);
    }

    /** Makes the calls in turn, again and again, up to the 512th: the answer to the n-th of these is due(n). */
    private static void upToTheLast(List<Script.Call> first, List<Script.Call> again, IntToLongFunction due) {
        OneTurned x = new OneTurned();
        for (Script.Call each : first) {
            Due.holds(each + " is not refused", each.on(x) >= 0);
        }
        for (int n = 0; n < CALLS - first.size(); n++) {
            Script.Call each = again.get(n % again.size());
            Due.due(each + ", call " + (first.size() + n + 1) + " of 512", each.on(x), due.applyAsLong(n));
        }
    }

    /** Twelve cards, seven heaps that are slow to ask, a sheet that tells their signs. */
    private static List<Script.Call> most() {
        List<Script.Call> calls = new ArrayList<>();
        calls.add(call("table", 12, 4));
        for (int h = 0; h < 7; h++) {
            calls.add(call("heap", 4, DEAREST[0] >> h, DEAREST[1] - h));
        }
        calls.add(call("film", 0));
        calls.add(call("turn", 2741));
        return calls;
    }

    private static void asked() {
        Script.Call[] calls = {
            call("count", 0), call("asks", 2, 11), call("told", 6, 4), call("signs", 0), call("look", 4095), call("one"),
            call("two", 0), call("counts", 6), call("unseen", 1), call("apart", 0), call("reach", 3), call("lay", 4095, 1),
            call("needs", 9999), call("can", 99999), call("reads"), call("coin", 0), call("swaps", 1), call("swept", 0, 0),
            call("cuts", 1), call("moves", 0), call("likely", 2), call("right", 1), call("cheapest", 1), call("lies"),
            call("idle"), call("judge", 0), call("match", 0, 3), call("tells", 0, 4095, 1), call("evening", 99999, 1),
            call("odds", 99999, 50, 0), call("taken", 18, 4),
        };
        for (Script.Call each : calls) {
            OneTurned x = new OneTurned();
            for (Script.Call before : most()) {
                before.on(x);
            }
            long due = each.on(x);
            upToTheLast(most(), List.of(each), n -> due);
        }
    }

    private static void refused() {
        Object[][] calls = {
            {call("table", 13, 1), -2}, {call("turn", 4096), -2}, {call("swap", 0, 0), -5}, {call("feed", 6, 0, 0, 0, 0, 0), -2},
            {call("text"), -100}, {call("force", 1), -2}, {call("heap", 0, 0, 0), -4}, {call("back"), -3},
            {call("even", 4096), -2}, {call("cut", 12), -2}, {call("move", 0, 12), -5}, {call("film", 4), -2},
            {call("sheet", 0, 2, -1), -14}, {call("cell", 1, 0, 0), -11}, {call("copy", 0, 0, 1, 0, 1), -11},
            {call("heapsBy", 0, 1, 0, 1), -13},
        };
        for (Object[] each : calls) {
            upToTheLast(most(), List.of((Script.Call) each[0]), n -> (Integer) each[1]);
        }
    }

    private static void turned() {
        List<Script.Call> twelve = List.of(call("table", 12, 4), call("turn", 1));
        upToTheLast(twelve, List.of(call("turn", 4095)), n -> n % 2 == 0 ? 4094 : 1);
        upToTheLast(twelve, List.of(call("swap", 0, 11), call("count", 2)), n -> n % 2 == 0 ? 1 : n % 4 == 1 ? 2048 : 1);
        upToTheLast(twelve, List.of(call("cut", 1)), n -> 1 << (11 - n % 12));
        upToTheLast(twelve, List.of(call("move", 11, 0)), n -> 1 << ((n + 1) % 12));
        upToTheLast(List.of(call("heap", 0, 1, 0)), List.of(call("turn", 1), call("even", 511)), n -> 1);
        upToTheLast(List.of(), List.of(call("table", 12, 1), call("table", 1, 12)), n -> n == 0 ? 9 : n % 2 == 0 ? 1 : 12);
        upToTheLast(List.of(), List.of(call("evening", 7, 0)), n -> 5);
    }

    private static void tapeAndTexts() {
        upToTheLast(List.of(), List.of(call("feed", 5, 32, 32, 32, 32, 32)), n -> n < 32 ? 5 * (n + 1) : -4);
        upToTheLast(List.of(), List.of(call("feed", 1, '!', 0, 0, 0, 0), call("text")), n -> n % 2 == 0 ? 1 : -100);
        // a text of 24 bytes, five by five: five of them come, then the tape fills up
        String text = "turns 7;swaps 8;looks 9;";
        List<Script.Call> again = new ArrayList<>();
        for (int i = 0; i < 25; i += 5) {
            String five = (text + " ").substring(i, i + 5);
            again.add(call("feed", 5, five.charAt(0), five.charAt(1), five.charAt(2), five.charAt(3), five.charAt(4)));
        }
        again.add(call("text"));
        upToTheLast(List.of(), again, n -> textsAnswer(n / 6, n % 6));
        upToTheLast(List.of(), List.of(call("force", 0)), n -> 0);
    }

    private static long textsAnswer(int round, int step) {
        if (round < 5) {
            return step < 5 ? 5 * (step + 1) : round + 1;
        }
        int bytes = 25 * (round - 5) + 5 * (step + 1);
        return step == 5 || bytes > 160 ? -4 : bytes;
    }

    private static void heapsAndImages() {
        upToTheLast(List.of(), List.of(call("heap", 5, 4095, 9), call("drop")), n -> 0);
        upToTheLast(List.of(), List.of(call("heap", 4, 4095, 9)), n -> n < 7 ? n : -4);
        upToTheLast(List.of(call("turn", 5), call("image")), List.of(call("heap", 4, 4095, 9), call("turn", 1), call("back")),
            n -> n % 3 == 0 ? 0 : n % 3 == 1 ? 4 : 5);
        upToTheLast(List.of(), List.of(call("image")), n -> 0);
        upToTheLast(List.of(call("sheet", 0, 0, 21), call("image")),
            List.of(call("heapsBy", 0, 0, 0, 7), call("count", 3), call("back")), n -> n % 3 == 2 ? 0 : 7);
    }

    private static void sheets() {
        for (int sort = 0; sort < 3; sort++) {
            List<Script.Call> again = List.of(call("sheet", 0, sort, 40), call("cell", 0, 39, 7), call("sheet", 1, sort, 40),
                call("copy", 0, 0, 1, 0, 40));
            upToTheLast(List.of(), again, n -> n % 4 == 3 ? 40 : 1);
        }
        upToTheLast(most(), List.of(call("film", 1), call("judge", 1)), n -> n % 2 == 0 ? 7 : -1);
        upToTheLast(List.of(), List.of(call("sheet", 3, 2, 40), call("sheet", 3, -1, 0), call("cell", 3, 0, 0)),
            n -> n % 3 == 2 ? -11 : 1);
    }
}
