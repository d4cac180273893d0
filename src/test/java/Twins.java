import java.util.List;

/**
 * Whether a call changes something: two objects are made by the same calls,
 * one is given the call, and both are asked all that can be asked, also by
 * calls that change them. New twins are made for each sort of question.
 */
final class Twins {
    private static final String[] ENDS = {"", ";", "1;", "aps 4;looks 5;", "1;swaps 2;looks 3;", "turns 1;swaps 2;looks 3;"};
    private static final int SORTS = 3, SHEETS = 4, MOST_CELLS = 40;

    private final OneTurned with = new OneTurned();
    private final OneTurned without = new OneTurned();
    private String difference = "";

    private Twins(List<Script.Call> before, Script.Call call) {
        for (Script.Call each : before) {
            each.on(with);
            each.on(without);
        }
        call.on(with);
    }

    /** What the two answer unlike; empty, if nothing. */
    static String difference(List<Script.Call> before, Script.Call call) {
        StringBuilder all = new StringBuilder();
        Twins twins = new Twins(before, call);
        twins.askTable();
        twins.askTexts();
        all.append(twins.difference);
        twins = new Twins(before, call);
        twins.askImage();
        all.append(twins.difference);
        for (String end : ENDS) {
            twins = new Twins(before, call);
            twins.askTape(end);
            all.append(twins.difference);
        }
        for (int s = 0; s < SHEETS; s++) {
            twins = new Twins(before, call);
            twins.askSheet(s);
            all.append(twins.difference);
        }
        return all.toString();
    }

    private long ask(String name, int... arguments) {
        Script.Call call = new Script.Call(name, arguments);
        long one = call.on(with);
        long other = call.on(without);
        if (one != other && difference.isEmpty()) {
            difference = call + " answers " + one + ", not " + other + "; ";
        }
        return other;
    }

    private void askTable() {
        for (int what = 0; what < 7; what++) {
            ask("count", what);
        }
        for (int i = 0; i < 19; i++) {
            ask("taken", i, 6);
            ask("taken", i, 0);
        }
        long heaps = ask("count", 3);
        for (int h = 0; h < heaps; h++) {
            for (int what = 0; what < 5; what++) {
                ask("told", h, what);
            }
        }
    }

    private void askTexts() {
        long texts = ask("count", 4);
        for (int t = 0; t < texts; t++) {
            ask("force", t);
            askLaw();
        }
    }

    private void askLaw() {
        long cards = ask("count", 0);
        for (int c = 0; c < cards; c++) {
            for (int part = 0; part < 3; part++) {
                ask("asks", part, c);
            }
        }
    }

    private void askImage() {
        ask("back");
        askTable();
        askLaw();
    }

    private void askTape(String end) {
        for (int i = 0; i < end.length(); i++) {
            ask("feed", 1, end.charAt(i), 0, 0, 0, 0);
        }
        ask("text");
        ask("force", (int) ask("count", 4) - 1);
        for (int part = 0; part < 3; part++) {
            ask("asks", part, 0);
        }
    }

    /** Each number is copied to another sheet, and is the members of a heap by that. */
    private void askSheet(int s) {
        int spare = (s + 1) % SHEETS;
        int sort = -1;
        for (int each = 0; each < SORTS; each++) {
            sort = ask("heapsBy", s, each, 0, 0) == 0 ? each : sort;
        }
        ask("cell", s, -1, 0);
        if (sort < 0) {
            return;
        }
        while (ask("drop") >= 0) {
            continue;
        }
        ask("sheet", spare, sort, 3);
        for (int i = 0; i < MOST_CELLS; i++) {
            if (ask("copy", s, i, spare, 1, 1) < 0) {
                break;
            }
            if (ask("heapsBy", spare, sort, 0, 1) == 1) {
                ask("told", 0, 1);
                ask("drop");
            }
        }
    }
}
