import java.util.ArrayList;
import java.util.List;

/**
 * Where promises meet: what calls of other promises answer after a call that
 * truly changes CARDS, HEAPS, THE LAW, THE TAPE, THE IMAGE or a SHEET. First by
 * answers that are written out here (reckoned apart from the class and from
 * Model), then each change with each question, by Model's answers.
 */
public final class MeetingsTest {
    private static final int MOST_CALLS = 512, TOLD_AT_MOST = 20;

    /** ROW 0 is 0 and 1, COLUMN 1 is 1 and 3, all weigh by 3; CARD 1 was turned since the IMAGE. */
    private static final String FOUR = """
        table(4, 2) | heap(1, 0, 0) | heap(3, 0, 1) | heap(4, 15, 1) | image()
        tape "turns 20-card;swaps 3+row*4;looks 9+back-fails;"
        text() | force(1) | turn(2)
        sheet(0, 2, 3) | cell(0, 0, 1) | cell(0, 2, 1)
        sheet(1, 0, 6) | cell(1, 1, 9) | cell(1, 3, 2) | cell(1, 5, 1)
        sheet(2, 2, 2) | cell(2, 0, 1) | cell(2, 1, 2)
        """;

    private static final String ASKED = """
        told(0, 3) | told(1, 3) | told(2, 4) | signs(0) | signs(1) | look(3) | one() | two(0) | two(1)
        counts(2) | unseen(1) | apart(0) | apart(1) | reach(2) | lay(7, 0) | lay(7, 1) | reads() | coin(2)
        swaps(0) | swaps(1) | swaps(2) | swept(1, 0) | swept(1, 1) | swept(1, 2) | cuts(0) | cuts(1) | cuts(2)
        moves(0) | moves(1)
        likely(0) | likely(1) | likely(2) | right(0) | right(1) | cheapest(0) | cheapest(1) | lies() | idle()
        judge(0) | match(0, 0) | match(0, 1) | match(0, 2) | match(0, 3) | tells(0, 7, 0) | tells(0, 7, 1)
        evening(4, 0) | evening(4, 1) | odds(4, 9, 0) | odds(4, 9, 1) | asks(0, 2) | asks(1, 2) | asks(2, 2)
        count(0) | count(1) | count(2) | count(3) | count(4) | count(5) | taken(1, 6) | taken(13, 1) | taken(15, 0)
        """;

    /** Nine cards by rows and columns, one of them turned. */
    private static final String SQUARE = """
        heap(1, 0, 0) | heap(1, 0, 1) | heap(1, 0, 2) | heap(3, 0, 0) | heap(3, 0, 1) | heap(3, 0, 2)
        image() | turn(16) | film(0) | turn(16) | turn(1)
        """;

    /** Eight cards by figures, and one heap of all. */
    private static final String FIGURES = """
        table(8, 4) | heap(2, 0, 0) | heap(2, 0, 1) | heap(2, 0, 2) | heap(0, 255, 0) | film(1) | turn(36) | film(0) | image()
        """;

    /** Ways beside one another: cards turned, neighbours changed about. */
    private static final String WAYS = """
        table(6, 3) | heap(4, 63, 1) | heap(5, 21, 1)
        tape "turns 40-card*card+fails;swaps card+column*5-fails;looks 7*back+row;"
        text() | force(1) | turn(22) | image() | sheet(0, 2, 2) | cell(0, 0, 2) | sheet(1, 0, 9) | cell(1, 4, 7)
        """;

    private static int told = 0;

    public static void main(String[] args) {
        answersAfterCardsChange();
        answersAfterHeapsChange();
        answersAfterSheetsChange();
        for (String before : new String[] {"", FOUR, SQUARE, FIGURES, WAYS, Script.RICH, Script.FULL}) {
            eachChangeEachQuestion(Script.calls("begins", before));
        }
        for (String before : new String[] {FOUR, Script.RICH}) {
            changeAfterChange(Script.calls("begins", before));
            changeAndQuestionLast(Script.calls("begins", before));
        }
        Due.end();
    }

    // ---- answers that are written out

    /** Answers that ASKED has after a change of FOUR; NO stands for NO. */
    private static void after(String promise, String change, String answers) {
        List<String> asked = List.of(ASKED.strip().split("\\s*[|\n]\\s*"));
        List<String> due = List.of(answers.strip().split("\\s+"));
        Due.due("answers for " + promise, due.size(), asked.size());
        StringBuilder run = new StringBuilder(FOUR).append(change).append('\n');
        for (int i = 0; i < asked.size() && i < due.size(); i++) {
            run.append(asked.get(i)).append(" = ").append(due.get(i)).append('\n');
        }
        Script.check("after promise " + promise, run.toString());
    }

    private static void answersAfterCardsChange() {
        after("13: what is asked changes nothing", "signs(2) = 3", """
            3 10 2 529 7 257 2 1 102
            0 4 4 -1 7 1 2 1 3
            0 3 2 0 -1 0 0 8 0 10 0
            2 19 22 19 22 1 7 7 7
            1 2 1 1 5 2 3
            3 0 0 1 18 7 6
            4 2 2 3 2 1 1 1 -11""");
        after("3: other CARDS show their BACKS", "turn(5) = 7", """
            3 10 0 16 2 0 0 1 1
            0 4 4 -1 6 2 3 3 1
            0 4 0 0 -1 0 0 0 0 6 0
            -1 0 0 NO NO -1 0 6 1
            0 2 1 1 5 1 2
            3 0 0 1 18 7 9
            4 2 7 3 2 1 1 1 -11""");
        after("3: none does", "turn(2) = 0", """
            3 10 0 0 0 16 4 0 -1
            0 4 4 -1 6 0 0 0 2
            0 0 0 2 0 0 14 14 14 0 0
            0 100 118 50 59 2 9 7 0
            0 2 1 1 5 1 1
            3 1 1 1 18 7 9
            4 2 0 3 2 1 0 1 -11""");
        after("4: another CARD does", "swap(1, 2) = 1", """
            3 10 0 0 0 16 4 0 -1
            0 4 4 -1 6 0 0 2 0
            0 6 0 2 0 0 0 0 0 10 0
            0 100 118 50 59 2 10 7 0
            0 2 1 1 5 1 1
            3 1 1 1 18 7 10
            4 2 4 3 2 1 0 1 -11""");
        after("2: so WIDE", "table(4, 3) = 4", """
            7 2 0 0 0 16 0 0 -1
            0 -1 4 -1 9 0 0 0 2
            0 0 0 1 0 1 14 14 14 0 0
            0 100 100 1 1 -1 0 7 0
            0 2 1 0 13 1 1
            3 1 1 1 18 3 9
            4 3 0 3 2 1 0 1 -11""");
        after("2: one CARD less, ROWS and COLUMNS by the same WIDE", "table(3, 2) = 4 | turn(2) = 2", """
            3 2 2 529 7 257 2 1 102
            0 4 3 -1 4 1 2 -3 -3
            0 3 2 0 -1 0 0 4 0 6 0
            2 19 22 19 22 1 7 7 7
            1 2 1 1 5 2 3
            2 0 0 1 18 7 6
            3 2 2 3 2 1 1 1 -11""");
        after("2: more CARDS, MEMBERS as they were", "table(8, 4) = 4 | turn(2) = 2", """
            15 34 2 529 7 257 2 5 5
            3 16 5 3 10 1 2 1 3
            0 3 0 0 -1 0 0 44 0 26 0
            2 19 19 1 1 1 7 7 0
            1 24 1 0 251 2 3
            3 0 0 1 18 3 6
            8 4 2 3 2 1 1 1 -11""");
        after("8: another LAW", "force(0) = 1", """
            3 10 2 529 7 257 2 1 102
            0 4 4 -1 7 1 2 1 3
            0 3 2 0 -1 0 0 8 0 10 0
            2 10 15 2 3 1 5 7 7
            1 2 1 1 5 2 3
            3 0 0 1 10 5 5
            4 2 2 3 2 0 1 1 -11""");
        after("22: ALL HOLD", "even(15) = 1", """
            3 10 0 0 0 16 4 0 -1
            0 4 4 -1 6 0 0 0 2
            0 0 0 2 0 0 14 14 14 0 0
            0 100 118 50 59 2 9 7 0
            0 2 1 1 5 1 1
            3 1 1 1 18 7 9
            4 2 0 3 2 1 0 1 -11""");
        after("22: there is no such set, and all is as it was", "even(13) = -1", """
            3 10 2 529 7 257 2 1 102
            0 4 4 -1 7 1 2 1 3
            0 3 2 0 -1 0 0 8 0 10 0
            2 19 22 19 22 1 7 7 7
            1 2 1 1 5 2 3
            3 0 0 1 18 7 6
            4 2 2 3 2 1 1 1 -11""");
        after("29: each CARD's BACK lies elsewhere, HEAPS stay by places", "cut(1) = 1", """
            3 10 1 257 5 529 1 1 2
            0 4 4 -1 6 1 1 0 2
            0 1 0 0 -1 0 0 4 0 6 0
            1 20 20 1 1 0 8 7 2
            -1 2 1 1 5 0 0
            3 0 0 1 18 7 7
            4 2 1 3 2 1 0 1 -11""");
        after("31: one goes behind", "move(1, 3) = 8", """
            3 10 1 272 6 256 8 1 203
            0 4 4 -1 6 -1 -1 3 1
            0 4 4 2 0 0 0 2 0 6 0
            4 17 24 17 24 3 8 7 1
            0 2 1 1 5 -1 -1
            3 0 0 1 18 7 7
            4 2 8 3 2 1 0 1 -11""");
        after("31: one comes ahead", "move(3, 0) = 4", """
            3 10 0 0 0 16 4 0 -1
            0 4 4 -1 6 0 0 2 0
            0 6 0 2 0 0 0 0 0 10 0
            0 100 118 50 59 2 10 7 0
            0 2 1 1 5 1 1
            3 1 1 1 18 7 10
            4 2 4 3 2 1 0 1 -11""");
    }

    private static void answersAfterHeapsChange() {
        after("10: one HEAP more, so that the SHEET's size isn't how many there are", "heap(0, 9, 0) = 3", """
            3 10 2 529 7 4353 2 1 102
            0 4 4 -1 7 1 2 1 3
            0 3 2 0 -1 0 0 8 0 10 0
            2 19 22 19 22 1 7 15 15
            -2 -2 -2 -2 -2 -2 -2
            3 0 0 1 18 7 6
            4 2 2 4 2 1 1 1 3""");
        after("11: the latest HEAP is gone, and THE IMAGE with it", "drop() = 2", """
            3 10 -5 17 3 1 2 2 3
            0 4 4 -1 4 1 2 1 3
            0 3 2 0 -1 0 0 8 0 10 0
            2 19 22 19 22 1 8 3 0
            -2 -2 -2 -2 -2 -2 -2
            3 0 0 1 18 7 7
            4 2 2 2 2 1 1 1 -11""");
        after("11: no HEAP is left", "drop() = 2 | drop() = 1 | drop() = 0", """
            -5 -5 -5 0 0 0 15 6 1
            6 1 1 1 1 0 0 1 3
            3 0 3 4 0 0 14 14 0 0 10
            0 100 180 5 9 0 37 0 0
            -2 -2 -2 -2 -2 -2 -2
            3 0 0 1 18 7 9
            4 2 2 0 2 1 1 -11 -11""");
        after("49: two HEAPS more", "heapsBy(1, 0, 0, 2) = 2", """
            3 10 2 529 7 4353 2 0 -1
            0 15 4 -1 11 1 2 1 3
            0 3 0 0 -1 0 0 0 0 10 0
            2 19 19 1 1 1 7 31 15
            -2 -2 -2 -2 -2 -2 -2
            3 0 0 1 18 7 6
            4 2 2 5 2 1 1 1 3""");
        after("45: all is as at first, THE LAW too", "back() = 0", """
            3 10 0 0 0 16 4 0 -1
            0 4 4 -1 6 0 0 0 2
            0 0 0 2 0 0 14 14 14 0 0
            0 100 110 10 11 2 5 7 0
            0 2 1 1 5 1 1
            3 1 1 1 10 5 5
            4 2 0 3 2 0 0 1 -11""");
        after("45: HEAPS that came since are none", "heap(0, 9, 0) = 3 | table(12, 5) = 4 | back() = 0", """
            3 10 0 0 0 16 4 0 -1
            0 4 4 -1 6 0 0 0 2
            0 0 0 2 0 0 14 14 14 0 0
            0 100 110 10 11 2 5 7 0
            0 2 1 1 5 1 1
            3 1 1 1 10 5 5
            4 2 0 3 2 0 0 1 -11""");
        after("10, 11: a HEAP of another KIND in its place", "drop() = 2 | heap(5, 4, 0) = 2", """
            3 10 0 17 3 257 0 1 102
            0 11 4 -1 8 2 6 1 3
            0 3 2 0 -1 0 0 8 0 10 0
            22 3 3 1 1 -1 0 6 0
            1 2 1 0 11 2 3
            3 0 0 1 18 7 7
            4 2 2 3 2 1 1 1 -11""");
        after("10, 11, 22: these are turned by the new one", "drop() = 2 | heap(5, 4, 0) = 2 | even(15) = 2", """
            3 10 0 0 0 272 0 0 -1
            0 11 4 -1 8 0 0 2 0
            0 6 0 1 4 1 0 0 0 10 0
            0 100 100 1 1 -1 0 7 0
            0 2 1 0 11 2 5
            3 1 1 1 18 7 10
            4 2 4 3 2 1 0 1 -11""");
    }

    private static void answersAfterSheetsChange() {
        after("41: the SHEET tells SIGNS as they are", "film(0) = 3", """
            3 10 2 529 7 257 2 1 102
            0 4 4 -1 7 1 2 1 3
            0 3 2 0 -1 0 0 8 0 10 0
            2 19 22 19 22 1 7 7 7
            -1 4 2 0 15 0 0
            3 0 0 1 18 7 6
            4 2 2 3 2 1 1 1 -11""");
        after("41: the SHEET tells SIGNS as they were, which another CARD leaves", "film(0) = 3 | turn(4) = 6", """
            3 10 2 529 7 257 2 1 102
            0 4 4 -1 7 1 2 3 1
            0 5 0 0 -1 0 4 0 0 10 0
            2 19 19 1 1 1 7 7 7
            -1 4 2 0 15 0 0
            3 0 0 1 18 7 7
            4 2 6 3 2 1 1 1 -11""");
        after("46: the SHEET tells that ALL HOLD", "sheet(0, 1, 3) = 1", """
            3 10 2 529 7 257 2 1 102
            0 4 4 -1 7 1 2 1 3
            0 3 2 0 -1 0 0 8 0 10 0
            2 19 22 19 22 1 7 7 7
            0 2 0 0 4 1 2
            3 0 0 1 18 7 6
            4 2 2 3 2 1 1 1 -11""");
        after("47: the SHEET tells what can't be", "cell(0, 1, 1) = 1", """
            3 10 2 529 7 257 2 1 102
            0 4 4 -1 7 1 2 1 3
            0 3 2 0 -1 0 0 8 0 10 0
            2 19 22 19 22 1 7 7 7
            2 0 -1 0 0 -1 -1
            3 0 0 1 18 7 6
            4 2 2 3 2 1 1 1 -11""");
        after("48: the SHEET tells SIGNS as they are, by numbers of another one", "copy(2, 0, 0, 1, 2) = 2", """
            3 10 2 529 7 257 2 1 102
            0 4 4 -1 7 1 2 1 3
            0 3 2 0 -1 0 0 8 0 10 0
            2 19 22 19 22 1 7 7 7
            -1 4 2 0 15 0 0
            3 0 0 1 18 7 6
            4 2 2 3 2 1 1 1 -11""");
    }

    // ---- each change with each question

    private static Script.Call call(String name, int... arguments) {
        return new Script.Call(name, arguments);
    }

    /** Calls that truly change something, or would, if they weren't refused there. */
    private static List<Script.Call> changes(int cards) {
        int all = (1 << cards) - 1;
        int last = cards - 1;
        List<Script.Call> calls = new ArrayList<>(List.of(
            call("table", cards, 1), call("table", 1, 12), call("table", 4, 2), call("table", 8, 3), call("table", 12, 5),
            call("turn", 1), call("turn", all), call("turn", all / 3), call("turn", 1 << last),
            call("swap", 0, last), call("swap", last, last - 1), call("swap", 2, 1),
            call("feed", 1, 59, 0, 0, 0, 0), call("feed", 5, 32, 10, 49, 59, 33), call("text"), call("force", 0), call("force", 1),
            call("drop"), call("even", all), call("even", all / 3), call("even", 0),
            call("cut", 1), call("cut", last), call("move", 0, last), call("move", last, 0), call("move", 1, 2),
            call("film", 0), call("film", 3), call("image"), call("back"),
            call("sheet", 0, -1, 0), call("sheet", 0, 0, 3), call("sheet", 1, 2, 40), call("sheet", 3, 1, 6),
            call("cell", 0, 0, 2), call("cell", 0, 1, 0), call("cell", 1, 1, 200), call("cell", 1, 4, 257), call("cell", 2, 1, 65537),
            call("copy", 0, 0, 0, 1, 2), call("copy", 1, 1, 1, 0, 2), call("copy", 0, 0, 2, 0, 2),
            call("heapsBy", 0, 2, 0, 1), call("heapsBy", 1, 0, 0, 2), call("heapsBy", 1, 0, 3, 2), call("heapsBy", 2, 1, 0, 3)));
        for (int kind = 0; kind <= 5; kind++) {
            calls.add(call("heap", kind, all / 3, 1));
        }
        return calls;
    }

    private static List<Script.Call> questions() {
        List<Script.Call> calls = new ArrayList<>(shortQuestions());
        for (int what = 0; what < 2; what++) {
            for (String name : new String[] {"two", "unseen", "apart", "cheapest", "moves", "right"}) {
                calls.add(call(name, what));
            }
            calls.add(call("lay", 1, what));
            calls.add(call("lay", 15, what));
            calls.add(call("tells", 0, 15, what));
            calls.add(call("tells", 3, 15, what));
            calls.add(call("evening", 44487, what));
            calls.add(call("odds", 5, 9, what));
        }
        for (int what = 0; what < 3; what++) {
            for (String name : new String[] {"swaps", "cuts", "likely", "counts", "reach"}) {
                calls.add(call(name, what));
            }
            for (int row = 0; row < 3; row++) {
                calls.add(call("swept", row, what));
            }
        }
        for (int what = 0; what < 4; what++) {
            calls.add(call("match", 0, what));
            calls.add(call("match", 1, what));
        }
        for (int i = 0; i < 19; i++) {
            calls.add(call("taken", i, i % 7));
        }
        for (String name : new String[] {"one", "reads", "lies", "idle"}) {
            calls.add(call(name));
        }
        calls.addAll(List.of(call("coin", 0), call("coin", 7), call("look", 1), call("look", 15), call("needs", 11), call("can", 8)));
        return calls;
    }

    /** What tells all that can be asked of the table, heaps and the law; and of sheets whether signs are so. */
    private static List<Script.Call> shortQuestions() {
        List<Script.Call> calls = new ArrayList<>();
        for (int what = 0; what < 7; what++) {
            calls.add(call("count", what));
        }
        for (int h = 0; h < 7; h++) {
            for (int what = 0; what < 5; what++) {
                calls.add(call("told", h, what));
            }
        }
        for (int part = 0; part < 3; part++) {
            calls.add(call("asks", part, 0));
            calls.add(call("asks", part, 3));
        }
        for (int s = 0; s < 4; s++) {
            calls.add(call("judge", s));
        }
        calls.add(call("signs", 0));
        return calls;
    }

    /** Calls that change something, too, and by that tell what is on the tape, in sheets, in the image. */
    private static List<Script.Call> lastQuestions() {
        List<Script.Call> calls = new ArrayList<>(List.of(call("text"), call("force", 2), call("asks", 0, 0)));
        for (int h = 0; h < 7; h++) {
            calls.add(call("drop"));
        }
        for (int s = 0; s < 4; s++) {
            for (int sort = 0; sort < 3; sort++) {
                calls.add(call("heapsBy", s, sort, 0, 2));
            }
        }
        for (int h = 0; h < 7; h++) {
            calls.add(call("told", h, 1));
        }
        return calls;
    }

    private static List<Script.Call> imageQuestions() {
        List<Script.Call> calls = new ArrayList<>(List.of(call("back")));
        calls.addAll(shortQuestions());
        return calls;
    }

    private static <T> T made(T x, List<Script.Call> before, Script.Call... more) {
        for (Script.Call each : before) {
            each.on(x);
        }
        for (Script.Call each : more) {
            each.on(x);
        }
        return x;
    }

    private static void same(OneTurned x, Model model, Script.Call asked, List<Script.Call> before, Script.Call... more) {
        long got = asked.on(x);
        long want = asked.on(model);
        boolean isTold = got != want && told < TOLD_AT_MOST;
        told += isTold ? 1 : 0;
        Due.due(asked + (isTold ? " after " + before + List.of(more) : ""), got, want);
    }

    private static int cardsAfter(List<Script.Call> before) {
        return made(new Model(), before).count(0);
    }

    private static void eachChangeEachQuestion(List<Script.Call> before) {
        for (Script.Call change : changes(cardsAfter(before))) {
            for (List<Script.Call> questions : List.of(questions(), lastQuestions(), imageQuestions())) {
                OneTurned x = made(new OneTurned(), before);
                Model model = made(new Model(), before);
                same(x, model, change, before);
                for (Script.Call asked : questions) {
                    same(x, model, asked, before, change);
                }
            }
        }
    }

    private static void changeAfterChange(List<Script.Call> before) {
        List<Script.Call> changes = changes(cardsAfter(before));
        for (Script.Call first : changes) {
            for (Script.Call second : changes) {
                OneTurned x = made(new OneTurned(), before, first);
                Model model = made(new Model(), before, first);
                same(x, model, second, before, first);
                for (Script.Call asked : shortQuestions()) {
                    same(x, model, asked, before, first, second);
                }
                for (Script.Call asked : imageQuestions()) {
                    same(x, model, asked, before, first, second);
                }
            }
        }
    }

    /** The change is the 511th call, the question the 512th: what stood before is asked for in between. */
    private static void changeAndQuestionLast(List<Script.Call> before) {
        for (Script.Call change : changes(cardsAfter(before))) {
            Model model = made(new Model(), before, change);
            for (Script.Call asked : questions()) {
                OneTurned x = made(new OneTurned(), before);
                for (int i = before.size(); i < MOST_CALLS - 2; i++) {
                    x.count(i % 7);
                }
                change.on(x);
                same(x, model, asked, before, change);
            }
        }
    }
}
