/** Each sentence of promises 1 to 50 that names a boundary case, and each refusal. */
public final class PromiseEdgesTest {
    private static int promise = 0;

    public static void main(String[] args) {
        theTable();
        theTape();
        theTexts();
        theHeaps();
        theSigns();
        cantBeSeen();
        layAndEven();
        oneCoin();
        changedAbout();
        cutAndMoved();
        likeliest();
        liesAndIdlers();
        told();
        evenings();
        images();
        sheets();
        copies();
        host();
        Due.end();
    }

    private static void check(String sentence, String... calls) {
        Script.check("promise " + promise + ": " + sentence, calls);
    }

    /** Calls that a rich object refuses so, and each changes nothing. */
    private static void refused(String sentence, String answer, String... calls) {
        for (String call : calls) {
            check(sentence, "rich\n" + call + " ! " + answer);
        }
    }

    /** A law; 24 bytes and more come on the tape, which is empty before. */
    private static String law(String turns, String swaps, String looks) {
        return "tape \"turns " + turns + ";swaps " + swaps + ";looks " + looks + ";\"\ntext() = 1 | force(1) = 0\n";
    }

    /** That a number of a sheet is so (0 .. 4095); there must be no heap, and sheet 3 is used. */
    private static String cellIs(int s, int sort, int i, int want) {
        return "sheet(3, " + sort + ", 3) | copy(" + s + ", " + i + ", 3, 1, 1) = 1\n"
            + "heapsBy(3, " + sort + ", 0, 1) = 1 | told(0, 1) = " + want + " | drop() = 0\n";
    }

    private static void theTable() {
        promise = 1;
        check("nine CARDS", "count(0) = 9 | turn(511) = 511 | turn(512) ! BAD");
        check("no HEAPS", "count(3) = 0 | drop() ! STATE | told(0, 0) ! -5 | taken(12, 0) ! -11");
        check("all as at first", "count(1) = 3 | count(2) = 0 | count(4) = 1 | count(5) = 0 | count(6) = 0 | back() ! STATE",
            "cell(0, 0, 0) ! -11 | cell(3, 0, 0) ! -11");

        promise = 2;
        refused("BAD: n", "BAD", "table(0, 4)", "table(13, 4)", "table(-1, 4)", "table(MIN, 4)", "table(MAX, 4)");
        refused("BAD: width", "BAD", "table(9, 0)", "table(9, 13)", "table(9, -1)", "table(9, MIN)", "table(9, MAX)");
        refused("BAD: both", "BAD", "table(0, 0)", "table(13, 13)", "table(0, 13)", "table(13, 0)");
        refused("BAD: the other one would do", "BAD", "table(8, 0)", "table(12, 13)", "table(1, -1)", "table(0, 3)",
            "table(13, 12)", "table(-1, 1)");
        for (int n : new int[] {1, 12}) {
            for (int width : new int[] {1, 12}) {
                check("the least and the most are taken", "rich\n table(" + n + ", " + width + ") = 9 | count(0) = " + n,
                    "count(1) = " + width);
            }
        }
        check("how many there were", "table(12, 1) = 9 | table(1, 12) = 12 | table(1, 1) = 1 | table(9, 3) = 1");
        check("none showing its BACK, though n and width stay", "rich\n table(9, 4) = 9 | count(2) = 0 | turn(511) = 511",
            "table(9, 4) = 9 | count(2) = 0");
        check("all else stays", "rich\n table(12, 1) = 9 | count(3) = 4 | count(4) = 2 | count(5) = 0 | count(6) = 11",
            "cell(0, 3, 4) = 1 | back() = 6");

        promise = 3;
        refused("BAD: no such CARDS", "BAD", "turn(512)", "turn(513)", "turn(1023)", "turn(4096)", "turn(-1)", "turn(MIN)",
            "turn(MAX)");
        check("no CARD", "rich\n turn(0) ? 37");
        check("all CARDS", "rich\n turn(511) = 474 | turn(511) = 37");
        for (int n = 1; n <= 12; n++) {
            check("the last CARD and the one behind it", "table(" + n + ", 3)", "turn(" + (1 << n) + ") ! BAD | turn("
                + (1 << (n - 1)) + ") = " + (1 << (n - 1)));
        }

        promise = 4;
        refused("-5: no such CARDS", "-5", "swap(-1, 0)", "swap(0, -1)", "swap(9, 0)", "swap(0, 9)", "swap(9, 10)",
            "swap(MIN, 0)", "swap(0, MIN)", "swap(MAX, 0)", "swap(0, MAX)");
        refused("-5: alike, too", "-5", "swap(0, 0)", "swap(1, 1)", "swap(8, 8)", "swap(9, 9)", "swap(-1, -1)");
        check("the first and the last", "turn(1) | swap(0, 8) = 1 | count(2) = 256 | swap(0, 8) = 1 | count(2) = 1",
            "swap(8, 0) = 1 | count(2) = 256");
        check("0, if they are not UNLIKE: both faces, both BACKS", "turn(3) | swap(0, 1) ? 0 | swap(2, 8) ? 0 | count(2) = 3");
        check("of two CARDS", "table(2, 1) | turn(2) | swap(0, 1) = 1 | count(2) = 1 | swap(0, 2) ! -5");
        check("of one CARD", "table(1, 1) | swap(0, 0) ! -5 | swap(0, 1) ! -5");

        promise = 5;
        refused("BAD", "BAD", "count(-1)", "count(7)", "count(MIN)", "count(MAX)");
        check("0 .. 6", "rich\n count(0) ? 9 | count(1) ? 4 | count(2) ? 37 | count(3) ? 4 | count(4) ? 2 | count(5) ? 0",
            "count(6) ? 11");
        check("0 .. 6, as much as can be", "full\n count(0) = 12 | count(1) = 5 | count(2) = 2741 | count(3) = 7 | count(4) = 6",
            "count(5) = 4 | count(6) = 160");
    }

    private static void theTape() {
        promise = 6;
        refused("BAD: n", "BAD", "feed(0, 1, 1, 1, 1, 1)", "feed(6, 1, 1, 1, 1, 1)", "feed(-1, 1, 1, 1, 1, 1)",
            "feed(MIN, 1, 1, 1, 1, 1)", "feed(MAX, 1, 1, 1, 1, 1)");
        for (int n = 1; n <= 5; n++) {
            check("n, 1 .. 5", "feed(" + n + ", 0, 255, 0, 255, 0) = " + n + " | count(6) = " + n);
            for (int i = 0; i < 5; i++) {
                for (String wrong : new String[] {"-1", "256", "MIN", "MAX"}) {
                    StringBuilder five = new StringBuilder();
                    for (int k = 0; k < 5; k++) {
                        five.append(", ").append(k == i ? wrong : "49");
                    }
                    refused("BAD: any of the five, behind the first n, too", "BAD", "feed(" + n + five + ")");
                }
            }
        }
        check("bytes 0 and 255", "feed(5, 0, 0, 0, 0, 0) = 5 | feed(5, 255, 255, 255, 255, 255) = 10");
        check("one by one, the first n alone", "feed(5, 116, 117, 114, 110, 115) = 5 | feed(1, 49, 33, 33, 33, 33) = 6",
            "feed(2, 59, 115, 33, 33, 33) = 8",
            "feed(4, 119, 97, 112, 115, 33) = 12 | feed(3, 50, 59, 108, 33, 33) = 15 | feed(4, 111, 111, 107, 115, 33) = 19",
            "feed(2, 51, 59, 33, 33, 33) = 21",
            "text() = 1 | force(1) | asks(0, 0) = 1 | asks(1, 0) = 2 | asks(2, 0) = 3");
        for (int n = 1; n <= 5; n++) {
            StringBuilder filled = new StringBuilder("tape \"turns 1;swaps 2;looks 3" + " ".repeat(160 - n - 23) + "\"\n");
            filled.append("count(6) = ").append(160 - n).append('\n');
            for (int more = n + 1; more <= 5; more++) {
                filled.append("feed(").append(more).append(", 59, 59, 59, 59, 59) ! FULL\n");
            }
            check("as many as have room", filled.toString(), "feed(" + n + ", 59, 32, 32, 32, 32) = 160",
                "feed(1, 32, 32, 32, 32, 32) ! FULL | text() = 1");
        }
        check("FULL, none comes", "full\n feed(1, 32, 32, 32, 32, 32) ! FULL | feed(5, 32, 32, 32, 32, 32) ! FULL",
            "count(6) = 160");
        check("BAD ahead of FULL", "full\n feed(0, 32, 32, 32, 32, 32) ! BAD | feed(6, 32, 32, 32, 32, 32) ! BAD",
            "feed(1, 256, 32, 32, 32, 32) ! BAD | feed(1, 32, 32, 32, 32, -1) ! BAD");
    }

    private static void theTexts() {
        promise = 7;
        check("its number, and THE TAPE is empty then", "rich\n tape \"aps 4;looks 5;\"\ntext() = 2 | count(4) = 3",
            "count(6) = 0 | count(5) = 0 | force(2) = 0 | asks(0, 0) = 31 | asks(1, 0) = 4 | asks(2, 0) = 5");
        check("by a FAULT, too, and there is no TEXT", "rich\n text() = -109 | count(6) = 0 | count(4) = 2 | count(5) = 0",
            "force(2) ! BAD | text() = -100");
        check("an empty TAPE", "text() ! -100 | count(4) = 1 | count(6) = 0");
        check("-100 less the place: the first, the last", "tape \"!\"\ntext() = -100\n tape \"" + " ".repeat(159)
            + "!\"\ntext() = -259\n tape \"" + " ".repeat(160) + "\"\ntext() = -260");
        check("FULL, then THE TAPE stays", "full\n text() ! FULL | text() ! FULL | count(6) = 160 | count(4) = 6");
        String six = "tape \"turns 1;swaps 1;looks 1;\"\ntext()\n".repeat(5);
        check("FULL, of an empty TAPE", six, "text() ! FULL | count(6) = 0");
        check("FULL, ahead of the FAULT", six, "tape \"turns !\"\ntext() ! FULL | count(6) = 7 | text() ! FULL | count(6) = 7");
        check("a FAULT takes no number", "tape \"x\"\ntext() = -100\n".repeat(8), six, "count(4) = 6");
        String longest = "tape \"turns 1" + "+1".repeat(70) + "!\"\ntext() = -247\n";
        check("a FAULT leaves nothing behind", longest.repeat(5), "tape \"turns 1" + "+1".repeat(68)
            + ";swaps 2;looks 3;\"\ntext() = 1 | force(1) | asks(0, 0) = 69 | asks(1, 0) = 2 | asks(2, 0) = 3");
        check("nor does a TEXT", ("tape \"turns 1" + "+1".repeat(68) + ";swaps 2;looks 3;\"\ntext()\n").repeat(5), "force(5)",
            "asks(0, 0) = 69 | asks(1, 0) = 2 | asks(2, 0) = 3 | force(1) | asks(0, 0) = 69 | asks(2, 0) = 3");

        promise = 8;
        refused("BAD", "BAD", "force(-1)", "force(2)", "force(6)", "force(MIN)", "force(MAX)");
        check("which was", "rich\n force(1) = 0 | force(1) ? 1 | force(0) = 1 | force(0) ? 0");
        check("the first and the last of six", "full\n force(0) = 4 | asks(0, 0) = 10 | force(5) = 0 | asks(0, 0) = 5",
            "asks(2, 11) = 25 | force(6) ! BAD | count(5) = 5");
        check("of one TEXT", "force(0) ? 0 | force(1) ! BAD | force(-1) ! BAD");

        promise = 9;
        refused("-5: no such CARD", "-5", "asks(0, -1)", "asks(0, 9)", "asks(0, MIN)", "asks(0, MAX)");
        refused("-7: part", "-7", "asks(-1, 0)", "asks(3, 0)", "asks(MIN, 8)", "asks(MAX, 8)");
        refused("-5 ahead of -7", "-5", "asks(-1, -1)", "asks(3, 9)", "asks(-1, 9)", "asks(3, -1)");
        check("part 0 .. 2 of the first and the last CARD", "rich\n asks(0, 0) ? 10 | asks(1, 0) ? 5 | asks(2, 0) ? 10",
            "force(1) | asks(0, 8) ? 7 | asks(1, 8) ? 8 | asks(2, 8) ? 9");
        check("swaps says something of the last CARD, too", "table(12, 1)\n" + law("1", "card", "1") + "asks(1, 11) = 11");
    }

    private static void theHeaps() {
        promise = 10;
        refused("BAD: KIND", "BAD", "heap(-1, 0, 0)", "heap(6, 0, 0)", "heap(MIN, 0, 0)", "heap(MAX, 0, 0)");
        refused("BAD: MEMBERS", "BAD", "heap(0, -1, 0)", "heap(0, 4096, 0)", "heap(5, MIN, 0)", "heap(5, MAX, 0)");
        refused("BAD: MORE", "BAD", "heap(0, 0, -1)", "heap(0, 0, 10)", "heap(5, 0, MIN)", "heap(5, 0, MAX)");
        for (int kind = 0; kind <= 5; kind++) {
            for (int members : new int[] {0, 4095}) {
                for (int more : new int[] {0, 9}) {
                    check("the least and the most are taken", "rich\n heap(" + kind + ", " + members + ", " + more + ") = 4",
                        "told(4, 0) = " + kind + " | told(4, 1) = " + members + " | told(4, 2) = " + more);
                }
            }
        }
        check("FULL", "full\n heap(0, 0, 0) ! FULL | heap(5, 4095, 9) ! FULL | drop() = 6 | heap(5, 4095, 9) = 6",
            "heap(0, 0, 0) ! FULL");
        check("BAD ahead of FULL", "full\n heap(6, 0, 0) ! BAD | heap(-1, 0, 0) ! BAD | heap(0, 4096, 0) ! BAD",
            "heap(0, -1, 0) ! BAD | heap(0, 0, 10) ! BAD | heap(0, 0, -1) ! BAD");

        promise = 11;
        check("how many there are: from 7 to none", "full\n drop() = 6 | drop() = 5 | drop() = 4 | drop() = 3 | drop() = 2",
            "drop() = 1 | told(0, 1) = 4095 | drop() = 0 | drop() ! STATE");
        check("STATE: there is none", "drop() ! STATE | heap(0, 1, 0) = 0 | drop() = 0 | drop() ! STATE");
        check("the latest one alone", "rich\n drop() = 3 | told(3, 0) ! -5 | told(2, 0) = 5 | told(1, 0) = 4 | told(0, 0) = 1",
            "heap(3, 7, 7) = 3 | told(3, 0) = 3");
        check("an IMAGE that has it is none any more", "rich\n drop() = 3 | drop() = 2 | back() ! STATE | heap(5, 3, 0) = 2",
            "back() ! STATE");
        check("an IMAGE that has it not stays", "rich\n drop() = 3 | back() = 6 | count(3) = 3 | drop() = 2 | back() ! STATE");
        check("an IMAGE without HEAPS stays", "turn(5) | image() = 5 | heap(0, 1, 0) | turn(5) | drop() = 0 | drop() ! STATE",
            "back() = 5 | count(3) = 0");
        check("an IMAGE of all seven", "full\n image() = 2741 | back() = 2741 | drop() = 6 | back() ! STATE");
        check("an IMAGE, kept anew without it, stays", "rich\n drop() = 3 | drop() = 2 | image() = 37 | heap(0, 0, 0) = 2",
            "drop() = 2 | back() = 37 | drop() = 1 | back() ! STATE");

        promise = 12;
        refused("-5: no such HEAP", "-5", "told(-1, 0)", "told(4, 0)", "told(7, 0)", "told(MIN, 0)", "told(MAX, 0)");
        refused("-7: what", "-7", "told(0, -1)", "told(0, 5)", "told(3, MIN)", "told(3, MAX)");
        refused("-5 ahead of -7", "-5", "told(-1, -1)", "told(4, 5)", "told(4, -1)", "told(-1, 5)");
        check("of the first and the last", "rich\n told(0, 0) ? 1 | told(0, 1) ? 0 | told(0, 2) ? 1 | told(0, 3) ? 240",
            "told(0, 4) ? 1",
            "told(3, 0) ? 0 | told(3, 1) ? 5 | told(3, 2) ? 0 | told(3, 3) ? 5 | told(3, 4) ? 0 | told(1, 4) ? 10",
            "told(2, 3) ? 169 | told(2, 4) ? 1");
        check("of the seventh", "full\n told(6, 0) = 0 | told(6, 4) = 0 | told(7, 0) ! -5");
    }

    private static void theSigns() {
        promise = 13;
        refused("BAD", "BAD", "signs(-1)", "signs(3)", "signs(MIN)", "signs(MAX)");
        check("what 0 .. 2", "rich\n signs(0) ? 417 | signs(1) ? 7 | signs(2) ? 3");
        check("no HEAPS", "signs(0) ? 0 | signs(1) ? 0 | signs(2) ? 0");
        check("all seven don't HOLD", "heap(0, 1, 0)\n".repeat(7), "turn(1) | signs(0) = 17895697 | signs(1) = 127",
            "signs(2) = 7");

        promise = 14;
        refused("BAD: no such CARDS", "BAD", "look(512)", "look(513)", "look(-1)", "look(MIN)", "look(MAX)");
        check("no CARD, all CARDS", "rich\n look(0) ? 417 | look(511) ? 289 | signs(0) = 417");
        check("of one CARD", "table(1, 1) | heap(0, 1, 0) | look(0) ? 0 | look(1) ? 1 | look(2) ! BAD");
        check("of twelve", "table(12, 1) | heap(0, 2048, 0) | look(2048) ? 1 | look(4095) ? 1 | look(4096) ! BAD");

        promise = 15;
        check("none", "rich\n one() ? 0");
        check("all, without HEAPS", "turn(5) | one() ? 511 | table(12, 1) | one() ? 4095 | table(1, 1) | one() ? 1");
        check("the last one", "table(12, 1) | heap(0, 2048, 0) | turn(2048) | one() ? 2048");
        check("not those by which nothing is mended", "heap(0, 1, 0) | one() = 510 | turn(1) | one() = 1");

        promise = 16;
        refused("BAD", "BAD", "two(-1)", "two(2)", "two(MIN)", "two(MAX)");
        check("of one CARD none", "table(1, 1) | two(0) ? 0 | two(1) ? -1");
        check("of two CARDS one", "table(2, 1) | two(0) ? 1 | two(1) ? 1");
        check("of twelve all", "table(12, 1) | two(0) ? 66 | two(1) ? 1");
        check("the last two", "table(12, 1) | heap(0, 1024, 0) | heap(0, 2048, 0) | turn(3072) | two(0) ? 1 | two(1) ? 1011");
        check("the first and the last", "table(12, 1) | heap(0, 1, 0) | heap(0, 2048, 0) | turn(2049) | two(0) ? 1",
            "two(1) ? 11");
        check("the first is that of the lesser first one", "table(12, 1) | heap(0, 6, 0) | heap(0, 2049, 0) | turn(3)",
            "two(0) ? 4 | two(1) ? 1");
        check("none", "table(3, 3) | heap(0, 1, 0) | heap(0, 2, 0) | heap(0, 4, 0) | turn(7) | two(0) ? 0 | two(1) ? -1",
            "turn(1) | two(0) ? 1 | two(1) ? 102");
    }

    private static void cantBeSeen() {
        promise = 17;
        refused("BAD", "BAD", "counts(-1)", "counts(13)", "counts(MIN)", "counts(MAX)");
        check("k 0: the empty set", "rich\n counts(0) ? 1 | table(1, 1) | heap(0, 1, 0) | counts(0) ? 1");
        check("k 12, of twelve", "table(12, 1) | counts(12) ? 1 | counts(6) ? 924 | counts(11) ? 12 | heap(0, 1, 0)",
            "counts(12) ? 0 | counts(11) ? 1");
        check("k above how many CARDS there are", "counts(9) ? 1 | counts(10) ? 0 | counts(12) ? 0 | table(1, 1) | counts(1) ? 1",
            "counts(2) ? 0");
        check("a BACK, if turned, weighs no more", "table(3, 3) | heap(4, 7, 9) | counts(3) ? 0 | turn(4) | counts(3) ? 1",
            "counts(2) ? 0 | counts(1) ? 0");

        promise = 18;
        refused("BAD", "BAD", "unseen(-1)", "unseen(2)", "unseen(MIN)", "unseen(MAX)");
        check("1 at least: the empty set is none", "unseen(0) ? 1 | unseen(1) ? 1");
        check("-1: none", "table(1, 1) | heap(0, 1, 0) | unseen(0) ? -1 | unseen(1) ? -1");
        check("the last CARD alone", "table(12, 1) | heap(4, 2047, 9) | unseen(0) ? 1 | unseen(1) ? 1024 | drop()",
            "heap(4, 1023, 9) | heap(0, 1024, 0) | unseen(1) ? 2048");
        check("all CARDS", "table(8, 1) | heap(0, 3, 0) | heap(0, 6, 0) | heap(0, 12, 0) | heap(0, 24, 0) | heap(0, 48, 0)",
            "heap(0, 96, 0) | heap(0, 192, 0)",
            "unseen(0) ? 8 | unseen(1) ? 255 | turn(77) | unseen(0) ? 8 | unseen(1) ? 255");
        check("the least of the fewest", "table(12, 1) | heap(0, 7, 0) | heap(0, 5, 0) | unseen(0) = 1 | unseen(1) = 8",
            "table(3, 1) | unseen(0) = 2 | unseen(1) = 5");

        promise = 19;
        refused("BAD", "BAD", "apart(-1)", "apart(2)", "apart(MIN)", "apart(MAX)");
        check("of one CARD", "table(1, 1) | apart(0) ? 1 | apart(1) ? -1");
        check("all alike", "table(12, 1) | apart(0) ? 1 | apart(1) ? 1");
        check("SIGNS of now are none of them, if each CARD changes these", "table(2, 2) | heap(0, 3, 0) | apart(0) ? 1",
            "apart(1) ? 1 | turn(1) | apart(0) ? 1 | apart(1) ? 1");
        check("all unlike", "table(12, 1) | heap(2, 0, 0) | heap(2, 0, 1) | heap(2, 0, 2) | heap(2, 0, 3) | apart(0) ? 12",
            "apart(1) ? -1 | turn(4095) | apart(0) ? 12 | apart(1) ? -1");
        check("the last two", "table(12, 1) | heap(4, 1023, 9) | apart(0) ? 11 | apart(1) ? 1011");
        check("the first and the last", "table(12, 1) | heap(4, 4095, 9) | apart(0) ? 11 | apart(1) ? 11");

        promise = 20;
        refused("BAD", "BAD", "reach(-1)", "reach(4)", "reach(MIN)", "reach(MAX)");
        check("k 0: those of now", "rich\n reach(0) ? 1 | table(1, 1) | reach(0) ? 1");
        check("k above how many CARDS there are", "table(1, 1) | heap(0, 1, 0) | reach(0) ? 1 | reach(1) ? 2 | reach(2) ? 2",
            "reach(3) ? 2");
        check("no HEAPS", "reach(0) ? 1 | reach(3) ? 1");
        check("BACKS are turned, too", "table(1, 1) | heap(0, 1, 0) | turn(1) | reach(0) ? 1 | reach(1) ? 2 | reach(3) ? 2");
        check("no more than k", "table(3, 3) | heap(0, 1, 0) | heap(0, 2, 0) | heap(0, 4, 0) | reach(0) ? 1 | reach(1) ? 4",
            "reach(2) ? 7 | reach(3) ? 8");
        check("as many as can be", "table(12, 12)\nheap(4, 1026, 8) | heap(4, 5, 9) | heap(4, 24, 9) | heap(4, 96, 9)",
            "heap(4, 384, 9) | heap(4, 2560, 7)",
            "reach(0) ? 1 | reach(1) ? 13 | reach(2) ? 79 | reach(3) ? 299");
    }

    private static void layAndEven() {
        promise = 21;
        refused("BAD: no such CARDS", "BAD", "lay(512, 0)", "lay(513, 1)", "lay(-1, 0)", "lay(MIN, 0)", "lay(MAX, 1)");
        refused("-7: what", "-7", "lay(0, -1)", "lay(511, 2)", "lay(0, MIN)", "lay(0, MAX)");
        refused("BAD ahead of -7", "BAD", "lay(512, 2)", "lay(-1, -1)", "lay(512, -1)", "lay(-1, 2)");
        check("no CARDS: 0, if ALL HOLD, else -1", "heap(0, 1, 0) | lay(0, 0) ? 0 | lay(0, 1) ? 0 | turn(1) | lay(0, 0) ? -1",
            "lay(0, 1) ? -1");
        check("the fewest is none, if ALL HOLD", "lay(511, 0) ? 0 | lay(511, 1) ? 0");
        check("-1: none", "table(2, 1) | heap(0, 1, 0) | turn(1) | lay(2, 0) ? -1 | lay(2, 1) ? -1 | lay(3, 0) ? 1",
            "lay(3, 1) ? 1");
        check("of some CARDS alone", "table(12, 1) | heap(0, 4095, 0) | turn(1) | lay(2048, 1) ? 2048 | lay(3072, 1) ? 1024",
            "lay(4095, 1) ? 1 | lay(4095, 0) ? 1");
        check("all of them", "table(7, 1)\n heap(0, 1, 0) | heap(0, 2, 0) | heap(0, 4, 0) | heap(0, 8, 0) | heap(0, 16, 0)",
            "heap(0, 32, 0) | heap(0, 64, 0)",
            "turn(127) | lay(127, 0) ? 7 | lay(127, 1) ? 127 | lay(126, 0) ? -1 | lay(63, 1) ? -1");
        check("the fewest ahead of the least", "table(12, 1) | heap(0, 9, 0) | heap(0, 10, 0) | heap(0, 12, 0) | turn(7)",
            "lay(7, 0) ? 3 | lay(7, 1) ? 7 | lay(15, 0) ? 1 | lay(15, 1) ? 8");

        promise = 22;
        refused("BAD", "BAD", "even(512)", "even(513)", "even(-1)", "even(MIN)", "even(MAX)");
        check("-1: there is no such set, and nothing is turned", "rich\n even(0) ! -1 | even(1) ! -1 | count(2) = 37");
        check("0: ALL HOLD, and nothing is turned", "turn(5) | even(511) ? 0 | even(0) ? 0 | count(2) = 5");
        check("these are truly turned", "heap(0, 256, 0) | turn(257) | even(255) ! -1 | even(256) = 1 | count(2) = 1",
            "even(256) ? 0 | count(2) = 1");
        check("how many: all", "table(7, 1)\n heap(0, 1, 0) | heap(0, 2, 0) | heap(0, 4, 0) | heap(0, 8, 0) | heap(0, 16, 0)",
            "heap(0, 32, 0) | heap(0, 64, 0)",
            "turn(127) | even(127) = 7 | count(2) = 0");
        check("all else stays", "rich\n drop() | drop() | drop() | even(511) = 1 | count(2) = 53 | count(0) = 9 | count(1) = 4",
            "count(3) = 1 | count(4) = 2 | count(5) = 0 | count(6) = 11");
    }

    private static void oneCoin() {
        promise = 23;
        refused("BAD", "BAD", "needs(-1)", "needs(10000)", "needs(MIN)", "needs(MAX)");
        for (int r = 2; r <= 13; r++) {
            int last = (1 << r) - r - 1;
            check("2 to the r is no less than n, r and 1 together", "needs(" + last + ") ? " + r + " | needs(" + (last + 1)
                + ") ? " + (r + 1));
        }
        check("the least n, the most", "needs(0) ? 0 | needs(1) ? 2 | needs(9999) ? 14");

        promise = 24;
        refused("BAD", "BAD", "can(0)", "can(100000)", "can(-1)", "can(MIN)", "can(MAX)", "can(131072)");
        check("the least and the most", "can(1) ? 1 | can(99999) ? 0");
        for (int two = 2; two <= 65536; two *= 2) {
            check("2, 4, and so on by twos", "can(" + two + ") ? 1 | can(" + (two + 1) + ") ? 0" + (two > 2 ? " | can("
                + (two - 1) + ") ? 0" : ""));
        }
        check("even ones that are none", "can(6) ? 0 | can(10) ? 0 | can(12) ? 0 | can(98304) ? 0");

        for (int n = 1; n <= 12; n++) {
            boolean isTwo = n == 1 || n == 2 || n == 4 || n == 8;
            String table = "table(" + n + ", 5) | turn(" + ((1 << n) - 1) + ")";
            int all = n == 1 || n > 2 ? 0 : 1;
            promise = 25;
            check("STATE: none of TWOS", table, isTwo ? "reads() ? " + all : "reads() ! STATE");
            promise = 26;
            check("STATE likewise", table, isTwo ? "coin(0) ? " + all + " | coin(" + (n - 1) + ") ? "
                + (all ^ (n - 1)) : "coin(0) ! STATE | coin(" + (n - 1) + ") ! STATE");
            check("BAD ahead of STATE: no such CARD's number", table, "coin(" + n + ") ! BAD | coin(-1) ! BAD | coin(MIN) ! BAD",
                "coin(MAX) ! BAD");
        }
        promise = 25;
        check("0: none does", "table(8, 1) | reads() ? 0");
        check("CARD 0 alone is 0, too", "table(8, 1) | turn(1) | reads() ? 0 | turn(129) | reads() ? 7");
        promise = 26;
        check("the CARD is one of these", "table(8, 1) | turn(182) | reads() = 5 | coin(5) ? 0 | coin(0) ? 5 | coin(7) ? 2",
            "turn(4) | reads() = 7 | turn(1) | reads() = 7");
    }

    private static void changedAbout() {
        promise = 27;
        refused("BAD", "BAD", "swaps(-1)", "swaps(3)", "swaps(MIN)", "swaps(MAX)");
        check("of one CARD none", "table(1, 1) | turn(1) | swaps(0) ? 0 | swaps(1) ? 0 | swaps(2) ? 0");
        check("of two CARDS", "table(2, 1) | turn(1) | swaps(0) ? 1 | swaps(1) ? 0 | swaps(2) ? 1 | heap(0, 1, 0) | swaps(0) ? 0",
            "swaps(1) ? 1 | swaps(2) ? 1");
        check("none is UNLIKE", "table(12, 1) | heap(0, 1, 0) | swaps(0) ? 0 | swaps(1) ? 0 | swaps(2) ? 0 | turn(4095)",
            "swaps(0) ? 0 | swaps(1) ? 0 | swaps(2) ? 0");
        check("each is UNLIKE", "table(12, 1) | turn(1365) | swaps(0) ? 2047 | swaps(1) ? 0 | swaps(2) ? 2047 | heap(5, 0, 0)",
            "swaps(0) ? 0 | swaps(1) ? 2047 | swaps(2) ? 2047");
        check("SIGNS may stay, and ALL not HOLD", "heap(0, 1, 0) | turn(17) | swaps(0) ? 0b11000 | swaps(1) ? 1 | swaps(2) ? 1");
        check("a BACK comes ahead, or behind", "table(2, 1) | heap(0, 2, 0) | turn(2) | swaps(0) ? 0 | swaps(1) ? 1",
            "swaps(2) ? 1 | turn(3) | swaps(0) ? 0 | swaps(1) ? 1 | swaps(2) ? 0");

        promise = 28;
        refused("-5: no such ROW", "-5", "swept(-1, 0)", "swept(3, 0)", "swept(MIN, 0)", "swept(MAX, 0)");
        refused("-7: what", "-7", "swept(0, -1)", "swept(2, 3)", "swept(0, MIN)", "swept(0, MAX)");
        refused("-5 ahead of -7", "-5", "swept(-1, -1)", "swept(3, 3)", "swept(3, -1)", "swept(-1, 3)");
        for (int n = 1; n <= 12; n++) {
            for (int width = 1; width <= 12; width++) {
                int last = (n - 1) / width;
                int inLast = n - last * width;
                check("the last ROW, and the one behind it", "table(" + n + ", " + width + ") | swept(" + last + ", 0) = "
                    + (1 << inLast) + " | swept(" + (last + 1) + ", 0) = -5");
            }
        }
        check("none", "table(8, 4) | heap(0, 16, 0) | turn(16) | swept(0, 0) ? 0 | swept(0, 1) ? -1 | swept(0, 2) ? 0");
        check("all ways", "table(12, 12) | turn(5) | swept(0, 0) ? 4096 | swept(0, 1) ? 0 | swept(0, 2) ? 0");
        check("the least, not 0", "table(8, 4) | heap(5, 0, 2) | swept(1, 0) ? 8 | swept(1, 1) ? 16 | swept(1, 2) ? 0 | turn(16)",
            "swept(1, 1) ? 16 | swept(1, 2) ? 0");
        check("1, if there is just one, and they lie so", "table(8, 1) | heap(0, 128, 0) | swept(7, 0) ? 1 | swept(7, 1) ? 0",
            "swept(7, 2) ? 1 | turn(128) | swept(7, 0) ? 1 | swept(7, 1) ? 0 | swept(7, 2) ? 0");
        check("1, by BACKS, too", "table(8, 1) | heap(5, 112, 2) | swept(7, 0) ? 1 | swept(7, 1) ? 128 | swept(7, 2) ? 0",
            "turn(128) | swept(7, 2) ? 1");
        check("1, of BACKS of this ROW alone", "table(8, 1) | heap(0, 128, 0) | turn(1) | swept(7, 2) ? 1");
    }

    private static void cutAndMoved() {
        promise = 29;
        refused("BAD: n is not 0 .. how many there are less 1", "BAD", "cut(-1)", "cut(9)", "cut(MIN)", "cut(MAX)");
        for (int n = 1; n <= 12; n++) {
            check("the last n, and the one behind it", "table(" + n + ", 3) | turn(1) | cut(" + n + ") ! BAD | cut(0) ? 1 | cut("
                + (n - 1) + ") = " + (n == 1 ? 1 : 2));
        }
        check("the first ones come behind all others", "rich\n cut(0) ? 37 | cut(8) = 74 | cut(1) = 37 | cut(1) = 274",
            "count(2) = 274");
        check("all BACKS", "turn(511) | cut(4) ? 511");

        promise = 30;
        refused("BAD", "BAD", "cuts(-1)", "cuts(3)", "cuts(MIN)", "cuts(MAX)");
        check("of one CARD none", "table(1, 1) | turn(1) | cuts(0) ? 0 | cuts(1) ? 0 | cuts(2) ? 0");
        check("of two CARDS, from 1 on", "table(2, 1) | cuts(0) ? 2 | cuts(1) ? 2 | cuts(2) ? 2 | turn(1) | cuts(2) ? 0");
        check("all of twelve", "table(12, 1) | cuts(0) ? 4094 | cuts(1) ? 4094 | cuts(2) ? 4094 | turn(1365) | cuts(2) ? 1364");
        check("the last one alone", "table(12, 1) | heap(0, 1, 0) | turn(2047) | cuts(0) ? 2046 | cuts(1) ? 2048 | cuts(2) ? 0");

        promise = 31;
        refused("-5: no such places", "-5", "move(-1, 0)", "move(0, -1)", "move(9, 0)", "move(0, 9)", "move(9, 9)",
            "move(MIN, 0)", "move(0, MIN)", "move(MAX, 0)", "move(0, MAX)");
        check("from the first to the last, and back", "rich\n move(0, 8) = 274 | move(8, 0) = 37 | count(2) = 37");
        check("to its own place", "rich\n move(0, 0) ? 37 | move(8, 8) ? 37 | move(2, 2) ? 37");
        check("of one CARD", "table(1, 1) | turn(1) | move(0, 0) ? 1 | move(0, 1) ! -5 | move(1, 0) ! -5");
        check("of twelve", "table(12, 1) | turn(1) | move(0, 11) = 2048 | move(11, 0) = 1 | move(11, 0) = 2 | move(0, 11) = 1",
            "move(0, 12) ! -5 | move(12, 0) ! -5");
        check("those between come one place ahead, or behind", "turn(0b010110) | move(0, 4) = 0b001011 | move(4, 0) = 0b010110",
            "move(1, 3) = 0b011010");

        promise = 32;
        refused("BAD", "BAD", "moves(-1)", "moves(2)", "moves(MIN)", "moves(MAX)");
        check("of one CARD none", "table(1, 1) | turn(1) | heap(0, 1, 0) | moves(0) ? 0 | moves(1) ? 0");
        check("all alike: none", "table(12, 1) | heap(0, 1, 0) | moves(0) ? 0 | moves(1) ? 0 | turn(4095) | moves(0) ? 0",
            "moves(1) ? 0");
        check("of two CARDS", "table(2, 1) | turn(1) | moves(0) ? 0 | moves(1) ? 2 | heap(0, 1, 0) | moves(0) ? 2",
            "moves(1) ? 0");
        check("of twelve", "table(12, 1) | turn(1) | moves(0) ? 0 | moves(1) ? 22 | heap(0, 1, 0) | moves(0) ? 22",
            "moves(1) ? 0");
    }

    private static void likeliest() {
        promise = 33;
        refused("BAD", "BAD", "likely(-1)", "likely(3)", "likely(MIN)", "likely(MAX)");
        check("BAD, if there is no WAY, too", "heap(5, 0, 3) | table(1, 1) | likely(3) ! BAD | likely(-1) ! BAD");
        check("-1: none, its weight 0, all 0", "heap(5, 0, 3) | table(1, 1) | likely(0) ? -1 | likely(1) ? 0 | likely(2) ? 0");
        check("nothing was done", "table(1, 1) | likely(0) ? 0 | likely(1) ? 100 | likely(2) ? 110");

        promise = 34;
        refused("NO: part", "NO", "right(-1)", "right(2)", "right(MIN)", "right(MAX)");
        check("NO: part, though there is a WAY", "right(0) ? 10 | right(1) ? 19 | right(-1) ! NO | right(2) ! NO");
        check("NO: there is no WAY", "heap(5, 0, 3) | table(1, 1) | right(0) ! NO | right(1) ! NO | right(2) ! NO");
        check("lowest terms: all of it", law("0", "0", "0") + "right(0) ? 1 | right(1) ? 1");
        check("lowest terms: nothing to take away", "table(12, 4) | turn(1365)\n" + law("99", "99", "0") + "right(0) ? 100",
            "right(1) ? 2377");
        check("lowest terms: a half", "table(2, 2) | heap(0, 1, 0) | turn(1)\n" + law("99", "99", "0") + "right(0) ? 1",
            "right(1) ? 2");

        promise = 35;
        refused("BAD", "BAD", "cheapest(-1)", "cheapest(2)", "cheapest(MIN)", "cheapest(MAX)");
        check("-1: none, looks 0", "heap(5, 0, 3) | table(1, 1) | cheapest(0) ? -1 | cheapest(1) ? 0");
        check("of like ones the first", "cheapest(0) ? 0 | cheapest(1) ? 90 | heap(0, 511, 0) | cheapest(0) ? -1 | turn(1)",
            "cheapest(0) ? 0");
        check("all looks: the most", "table(12, 4)\n" + law("0", "0", "100") + "cheapest(0) ? 0 | cheapest(1) ? 1188");
        check("all looks: 0, though there are such CARDS", "table(12, 4)\n" + law("0", "0", "0-1") + "cheapest(0) ? 0",
            "cheapest(1) ? 0");
        check("the last one, by 1", "table(12, 4)\n" + law("0", "0", "99-(card=11)") + "cheapest(0) ? 11 | cheapest(1) ? 1187");
    }

    private static void liesAndIdlers() {
        promise = 36;
        check("no HEAPS", "lies() ? 0 | turn(5) | lies() ? 0");
        check("one HEAP, which may HOLD or not", "table(1, 1) | heap(5, 0, 3) | lies() ? 1 | drop() | heap(0, 1, 0)",
            "lies() ? 1");
        check("seven HEAPS", "heap(0, 0, 0)\n".repeat(7), "lies() ? 127");
        check("none being turned", "table(1, 1) | heap(0, 1, 0) | heap(0, 0, 0) | lies() ? 3 | turn(1) | lies() ? 3");
        check("one CARD being turned", "table(2, 2) | heap(0, 1, 0) | heap(0, 2, 0) | turn(3) | lies() ? 3");
        check("not two", "table(3, 3) | heap(0, 1, 0) | heap(0, 2, 0) | heap(0, 4, 0) | turn(7) | lies() ? 0 | turn(4)",
            "lies() ? 3 | turn(2) | lies() ? 7");
        check("the last HEAP alone",
            "table(2, 2)", "heap(0, 0, 0)\n".repeat(6), "heap(5, 0, 3) | lies() ? 64");
        check("two that never HOLD", "table(2, 2) | heap(5, 0, 3) | heap(5, 0, 3) | lies() ? 0");

        promise = 37;
        check("no HEAPS", "idle() ? 0");
        check("one HEAP: if its SIGN never changes", "heap(0, 0, 0) | idle() ? 1 | drop() | heap(0, 1, 0) | idle() ? 0 | drop()",
            "heap(4, 2, 0) | idle() ? 1 | drop() | heap(4, 2, 1) | idle() ? 0");
        check("whatever set: that by which all show their faces", "table(1, 1) | heap(0, 1, 0) | turn(1) | idle() ? 0");
        check("seven alike", "table(12, 1)\n" + "heap(0, 4095, 0)\n".repeat(7), "idle() ? 127");
        check("seven unlike", "table(7, 1)\n heap(0, 1, 0) | heap(0, 2, 0) | heap(0, 4, 0) | heap(0, 8, 0) | heap(0, 16, 0)",
            "heap(0, 32, 0) | heap(0, 64, 0) | idle() ? 0");
        check("whatever set: that of all CARDS", "table(3, 3) | heap(0, 3, 0) | heap(0, 6, 0) | idle() ? 0 | heap(0, 7, 0)",
            "idle() ? 0 | heap(0, 5, 0) | idle() ? 11");
        check("whatever set: from these BACKS", "table(2, 2) | heap(0, 3, 0) | heap(4, 3, 1) | idle() ? 3 | turn(1) | idle() ? 1",
            "turn(3) | idle() ? 1 | turn(1) | idle() ? 3");
    }

    private static void told() {
        String[] sheet = {"-1", "4", "MIN", "MAX"};
        promise = 38;
        for (String s : sheet) {
            refused("BAD: SHEET", "BAD", "judge(" + s + ")");
        }
        refused("-11", "-11", "judge(3)");
        refused("BAD: its size", "BAD", "judge(1)", "judge(2)");
        check("BAD: its size, one less, one more", "rich\n sheet(3, 2, 3) | judge(3) ! BAD | sheet(3, 2, 5) | judge(3) ! BAD",
            "sheet(3, 2, 0) | judge(3) ! BAD | sheet(3, 2, 40) | judge(3) ! BAD | sheet(3, 2, 4) | judge(3) ? 0");
        check("no HEAPS, an empty SHEET", "sheet(0, 0, 0) | judge(0) ? -1 | sheet(0, 0, 1) | judge(0) ! BAD");
        check("the first HEAP, the last, none", "rich\n judge(0) ? 1 | cell(0, 1, 10) | judge(0) ? 2 | cell(0, 2, 1)",
            "judge(0) ? 3 | cell(0, 3, 0) | judge(0) ? -1 | cell(0, 0, 0) | judge(0) ? 0");
        for (int sort = 0; sort < 3; sort++) {
            check("a SHEET of any sort", "rich\n sheet(3, " + sort + ", 4) | cell(3, 0, 1) | cell(3, 1, 10) | cell(3, 2, 1)",
                "judge(3) ? -1 | cell(3, 3, 1) | judge(3) ? 3");
        }
        for (String other : new String[] {"-1", "-16", "-15", "2", "11", "15", "16", "17", "33", "257", "65537", "MIN", "MAX",
            "-2147483647"}) {
            check("a number that is no SIGN is otherwise", "heap(0, 1, 0) | turn(1) | sheet(0, 2, 1) | cell(0, 0, " + other + ")",
                "judge(0) ? 0");
            check("a number that is no SIGN, of the last HEAP", "heap(0, 1, 0)\n".repeat(7), "turn(1) | film(0) = 7",
                "judge(0) ? -1 | cell(0, 6, " + other + ") | judge(0) ? 6");
        }
        check("of bytes, shorts what is kept", "heap(0, 1, 0) | turn(1) | sheet(0, 0, 1) | cell(0, 0, 257) | judge(0) ? -1",
            "sheet(0, 1, 1) | cell(0, 0, 257) | judge(0) ? 0 | cell(0, 0, 65537) | judge(0) ? -1");

        promise = 39;
        for (String s : sheet) {
            refused("BAD: SHEET, ahead of -7", "BAD", "match(" + s + ", 0)", "match(" + s + ", -1)", "match(" + s + ", 4)");
        }
        refused("-11, ahead of -7", "-11", "match(3, 0)", "match(3, 4)", "match(3, -1)");
        refused("BAD: its size, ahead of -7", "BAD", "match(1, 0)", "match(2, 4)", "match(2, -1)");
        refused("-7: what", "-7", "match(0, -1)", "match(0, 4)", "match(0, MIN)", "match(0, MAX)");
        check("none", "heap(0, 1, 0) | sheet(0, 2, 1) | cell(0, 0, 2) | match(0, 0) ? 0 | match(0, 1) ? -1 | match(0, 2) ? 0",
            "match(0, 3) ? 0");
        check("none, a number that is no SIGN", "heap(0, 1, 0) | sheet(0, 2, 1) | cell(0, 0, 16) | match(0, 0) ? 0",
            "match(0, 1) ? -1 | cell(0, 0, -16) | match(0, 0) ? 0");
        check("all", "table(12, 1) | turn(5) | sheet(0, 2, 0) | match(0, 0) ? 4096 | match(0, 1) ? 0 | match(0, 2) ? 0",
            "match(0, 3) ? 4095");
        check("just one", "table(1, 1) | heap(0, 1, 0) | sheet(0, 2, 1) | match(0, 0) ? 1 | match(0, 1) ? 0 | match(0, 2) ? 0",
            "match(0, 3) ? 0 | cell(0, 0, 1) | match(0, 0) ? 1 | match(0, 1) ? 1 | match(0, 2) ? 1 | match(0, 3) ? 1");
        check("the last CARD in all, the least", "table(12, 1) | heap(0, 2048, 0) | sheet(0, 2, 1) | cell(0, 0, 1)",
            "match(0, 0) ? 2048 | match(0, 1) ? 2048 | match(0, 2) ? 2048 | match(0, 3) ? 4095");

        promise = 40;
        for (String s : sheet) {
            refused("BAD: SHEET, ahead of -7", "BAD", "tells(" + s + ", 0, 0)", "tells(" + s + ", 512, 0)", "tells(" + s
                + ", 0, 2)");
        }
        refused("-11, ahead of -7", "-11", "tells(3, 0, 0)", "tells(3, 512, 2)", "tells(3, -1, 0)");
        refused("BAD: its size, ahead of -7", "BAD", "tells(1, 0, 0)", "tells(1, 512, 2)", "tells(2, 0, -1)");
        refused("-7: set", "-7", "tells(0, 512, 0)", "tells(0, -1, 1)", "tells(0, MIN, 0)", "tells(0, MAX, 0)");
        refused("-7: what", "-7", "tells(0, 0, -1)", "tells(0, 511, 2)", "tells(0, 0, MIN)", "tells(0, 0, MAX)");
        refused("-7: both", "-7", "tells(0, 512, 2)", "tells(0, -1, -1)");
        check("no CARDS", "heap(0, 1, 0) | sheet(0, 2, 1) | tells(0, 0, 0) ? 0 | tells(0, 0, 1) ? 0 | turn(1)",
            "tells(0, 0, 0) ? -1 | tells(0, 0, 1) ? -1");
        check("all CARDS", "table(12, 1) | heap(0, 2048, 0) | sheet(0, 2, 1) | cell(0, 0, 1) | tells(0, 4095, 0) ? 1",
            "tells(0, 4095, 1) ? 2048 | tells(0, 2047, 0) ? -1 | tells(0, 2047, 1) ? -1");
        check("-1: none, a number that is no SIGN", "heap(0, 1, 0) | sheet(0, 2, 1) | cell(0, 0, 17) | tells(0, 511, 0) ? -1",
            "tells(0, 511, 1) ? -1");
        check("of like ones the least", "heap(0, 384, 0) | sheet(0, 2, 1) | cell(0, 0, 1) | tells(0, 511, 0) ? 1",
            "tells(0, 511, 1) ? 128 | tells(0, 256, 1) ? 256");
        check("the fewest ahead of the least", "heap(0, 9, 0) | heap(0, 10, 0) | heap(0, 12, 0) | sheet(0, 2, 3) | cell(0, 0, 1)",
            "cell(0, 1, 1) | cell(0, 2, 1) | tells(0, 7, 1) ? 7 | tells(0, 15, 1) ? 8");

        promise = 41;
        for (String s : sheet) {
            refused("BAD", "BAD", "film(" + s + ")");
        }
        check("of no HEAPS: empty, not missing", "film(3) = 0 | cell(3, 0, 0) ! -12 | heapsBy(3, 2, 0, 0) = 0 | judge(3) = NONE");
        check("of seven", "full\n film(3) = 7 | judge(3) ? -1 | cell(3, 6, 0) = 1 | cell(3, 7, 0) ! -12");
        for (int s = 0; s < 4; s++) {
            check("ints, whatever it was", "rich\n film(" + s + ") = 4 | heapsBy(" + s + ", 2, 0, 0) = 0 | judge(" + s
                + ") = NONE | cell(" + s + ", 4, 0) ! -12 | count(2) = 37 | count(3) = 4");
        }
    }

    private static void evenings() {
        promise = 42;
        refused("BAD: SEED", "BAD", "evening(-1, 0)", "evening(100000, 0)", "evening(-1, 1)", "evening(100000, 1)",
            "evening(MIN, 0)", "evening(MAX, 1)");
        refused("BAD: what", "BAD", "evening(0, -1)", "evening(0, 2)", "evening(99999, MIN)", "evening(99999, MAX)");
        refused("BAD: both", "BAD", "evening(-1, -1)", "evening(100000, 2)");
        // 100000 times 48271 less 2 times 2147483647 is 532132706, which leaves 2 by nine
        check("the first SEED, the last", "heap(2, 0, 0) | heap(2, 0, 1) | heap(2, 0, 2) | heap(2, 0, 3) | evening(0, 0) ? 4",
            "evening(0, 1) ? 1 | evening(99999, 0) ? 2 | evening(99999, 1) ? 1");
        check("of one CARD", "table(1, 1) | evening(0, 0) ? 0 | evening(0, 1) ? 1 | heap(5, 0, 3) | evening(0, 1) ? 0");

        promise = 43;
        refused("NO: SEED", "NO", "odds(-1, 1, 0)", "odds(100000, 1, 0)", "odds(MIN, 1, 0)", "odds(MAX, 50, 1)");
        refused("NO: so many", "NO", "odds(0, 0, 0)", "odds(0, 51, 0)", "odds(0, -1, 0)", "odds(0, MIN, 0)", "odds(0, MAX, 1)");
        refused("NO: part", "NO", "odds(0, 1, -1)", "odds(0, 1, 2)", "odds(0, 1, MIN)", "odds(0, 1, MAX)");
        refused("NO: all of them", "NO", "odds(-1, 0, -1)", "odds(100000, 51, 2)");
        String all = "heap(2, 0, 0) | heap(2, 0, 1) | heap(2, 0, 2) | heap(2, 0, 3) | heap(0, 511, 0)";
        check("all are found: 1 of 1", all, "odds(0, 1, 0) ? 1 | odds(0, 1, 1) ? 1 | odds(0, 50, 0) ? 1 | odds(0, 50, 1) ? 1",
            "odds(99999, 50, 0) ? 1 | odds(99999, 50, 1) ? 1");
        check("none is found: 0 of 1", "odds(0, 1, 0) ? 0 | odds(0, 1, 1) ? 1 | odds(99999, 50, 0) ? 0 | odds(99999, 50, 1) ? 1");
        check("they may pass 99999", "table(12, 1) | heap(0, 1, 0)", oddsOf(99999, 50, 12), oddsOf(99950, 50, 12),
            oddsOf(99951, 50, 12), oddsOf(99999, 1, 12));
        check("one, and fifty", "table(12, 1) | heap(0, 1, 0)", oddsOf(0, 1, 12), oddsOf(0, 50, 12), oddsOf(11, 1, 12),
            oddsOf(12, 1, 12), oddsOf(7, 49, 12), oddsOf(44460, 50, 12));
    }

    /** The odds of card 0 of so many, which alone is told. */
    private static String oddsOf(int seed, int seeds, int cards) {
        int found = 0;
        for (int i = 0; i < seeds; i++) {
            found += (seed + i + 1L) * 48271 % 2147483647L % cards == 0 ? 1 : 0;
        }
        int divisor = java.math.BigInteger.valueOf(found).gcd(java.math.BigInteger.valueOf(seeds)).intValue();
        String call = "odds(" + seed + ", " + seeds;
        return call + ", 0) ? " + found / divisor + " | " + call + ", 1) ? " + seeds / divisor + "\n";
    }

    private static void images() {
        promise = 44;
        check("BACKS: none, all", "image() = 0 | turn(511) | image() = 511 | turn(1) | back() = 511 | table(12, 1) | turn(4095)",
            "image() = 4095");
        check("the latest one is THE IMAGE", "rich\n image() = 37 | turn(1) | back() = 37 | count(3) = 4 | count(5) = 0");

        promise = 45;
        check("STATE: there is none", "back() ! STATE | turn(5) | heap(0, 1, 0) | back() ! STATE | count(2) = 5");
        check("HEAPS that came since are none", "rich\n heap(0, 0, 0) | heap(0, 0, 0) | heap(0, 0, 0) = 6 | heap(0, 0, 0) ! FULL",
            "back() = 6 | count(3) = 3 | told(3, 0) ! -5 | told(2, 0) = 5 | heap(2, 0, 0) = 3 | told(3, 0) = 2");
        check("all HEAPS came since", "image() = 0 | heap(0, 1, 0)", "heap(1, 1, 0)\n".repeat(6), "back() = 0 | count(3) = 0",
            "drop() ! STATE");
        check("no HEAP came since", "full\n image() = 2741 | turn(4095) = 1354 | back() = 2741 | count(3) = 7");
        check("again, as it stays", "rich\n back() = 6 | turn(511) = 505 | table(1, 1) | back() = 6 | back() ? 6 | count(0) = 9",
            "count(1) = 4");
        check("the CARDS of HEAPS are as there", "rich\n table(2, 1) | told(0, 3) = 2 | told(1, 3) = 3 | back() = 6",
            "told(0, 3) = 240 | told(1, 3) = 511 | told(2, 3) = 169");
        check("THE LAW is as there", "rich\n asks(0, 0) = 10 | back() = 6 | count(5) = 1 | asks(0, 0) = 7");
        check("STATE: it went with a HEAP", "rich\n drop() | drop() | back() ! STATE | count(2) = 37 | count(3) = 2");
    }

    private static void sheets() {
        promise = 46;
        refused("BAD: SHEET", "BAD", "sheet(-1, 0, 1)", "sheet(4, 0, 1)", "sheet(MIN, 2, 1)", "sheet(MAX, 2, 1)",
            "sheet(4, -1, 0)", "sheet(-1, -1, 0)");
        refused("BAD: sort", "BAD", "sheet(0, -2, 1)", "sheet(0, 3, 1)", "sheet(0, MIN, 1)", "sheet(0, MAX, 1)");
        refused("BAD: n above 40", "BAD", "sheet(0, 0, 41)", "sheet(1, 1, 41)", "sheet(2, 2, 41)", "sheet(3, 2, MAX)");
        refused("-14", "-14", "sheet(0, 0, -1)", "sheet(1, 1, -1)", "sheet(2, 2, -1)", "sheet(3, 2, MIN)");
        refused("BAD ahead of -14", "BAD", "sheet(4, 0, -1)", "sheet(-1, 0, -1)", "sheet(0, 3, -1)", "sheet(0, -2, -1)",
            "sheet(4, 3, 41)");
        for (int sort = 0; sort < 3; sort++) {
            check("n 0 .. 40", "sheet(0, " + sort + ", 0) = 1 | cell(0, 0, 0) ! -12 | sheet(0, " + sort + ", 1) = 1",
                "cell(0, 0, 0) = 1 | cell(0, 1, 0) ! -12 | sheet(0, " + sort + ", 40) = 1 | cell(0, 39, 0) = 1",
                "cell(0, 40, 0) ! -12");
            check("all 0: the first and the last", "sheet(0, " + sort + ", 40) | cell(0, 0, 7) | cell(0, 39, 7) | sheet(0, "
                + sort + ", 40) = 1", cellIs(0, sort, 0, 0), cellIs(0, sort, 39, 0));
            check("all 0, having been less", "sheet(0, " + sort + ", 40) | cell(0, 0, 7) | cell(0, 39, 7) | sheet(0, " + sort
                + ", 1) | sheet(0, " + sort + ", 40) = 1", cellIs(0, sort, 0, 0), cellIs(0, sort, 39, 0));
            for (int next = 0; next < 3; next++) {
                check("of a sort, whatever it was", "sheet(0, " + sort + ", 4) | cell(0, 3, 7) | sheet(0, " + next + ", 4) = 1",
                    "heapsBy(0, " + next + ", 0, 0) = 0", cellIs(0, next, 3, 0));
            }
        }
        for (String n : new String[] {"0", "1", "40", "41", "-1", "MIN", "MAX"}) {
            check("missing: n does not matter", "rich\n sheet(0, -1, " + n + ") = 1 | cell(0, 0, 0) ! -11 | sheet(3, -1, " + n
                + ") = 1 | cell(3, 0, 0) ! -11");
        }
        check("one SHEET alone", "rich\n sheet(0, 0, 5) | sheet(1, -1, 0) | cell(2, 5, 9) = 1 | cell(2, 6, 9) ! -12",
            "cell(3, 0, 0) ! -11 | cell(0, 4, 0) = 1");

        promise = 47;
        refused("BAD: SHEET", "BAD", "cell(-1, 0, 0)", "cell(4, 0, 0)", "cell(MIN, 0, 0)", "cell(MAX, 0, 0)");
        refused("-11", "-11", "cell(3, 0, 0)");
        refused("-12", "-12", "cell(0, -1, 7)", "cell(0, 4, 7)", "cell(1, 3, 7)", "cell(2, 6, 7)", "cell(2, MIN, 7)",
            "cell(2, MAX, 7)");
        refused("BAD ahead of -12", "BAD", "cell(4, -1, 0)", "cell(-1, 40, 0)");
        refused("-11 ahead of -12", "-11", "cell(3, -1, 0)", "cell(3, 40, 0)");
        check("-12, of an empty one", "sheet(0, 2, 0) | cell(0, 0, 0) ! -12 | cell(0, -1, 0) ! -12");
        check("the first and the last", "sheet(0, 2, 40) | cell(0, 0, 3) = 1 | cell(0, 39, 4) = 1", cellIs(0, 2, 0, 3),
            cellIs(0, 2, 39, 4), cellIs(0, 2, 1, 0), cellIs(0, 2, 38, 0));
        keeps("of bytes its lowest 8 bits", 0, new int[][] {{127, 127}, {128, -1}, {-1, -1}, {255, -1}, {256, 0}, {257, 1},
            {-128, -1}, {-129, 127}, {-256, 0}, {383, 127}, {Integer.MIN_VALUE, 0}, {Integer.MAX_VALUE, -1}});
        keeps("of shorts its lowest 16 bits", 1, new int[][] {{127, 127}, {128, 128}, {256, 256}, {4095, 4095}, {32768, -1},
            {65535, -1}, {65536, 0}, {69631, 4095}, {-1, -1}, {-65536, 0}, {-61441, 4095}, {Integer.MIN_VALUE, 0},
                {Integer.MAX_VALUE, -1}});
        keeps("of ints all of it", 2, new int[][] {{127, 127}, {256, 256}, {4095, 4095}, {65536, -1}, {69631, -1}, {-65536, -1},
            {Integer.MIN_VALUE, -1}, {Integer.MAX_VALUE, -1}});
    }

    /** What is put, and what is kept, if that is 0 .. 4095; else -1: no heap can have such members. */
    private static void keeps(String sentence, int sort, int[][] puts) {
        for (int[] put : puts) {
            String made = put[1] < 0 ? " = 0" : " = 1 | told(0, 1) = " + put[1];
            check(sentence, "sheet(0, " + sort + ", 3) | cell(0, 1, " + put[0] + ") = 1 | heapsBy(0, " + sort + ", 0, 1)" + made);
        }
    }

    private static void copies() {
        promise = 48;
        refused("BAD: SHEETS", "BAD", "copy(-1, 0, 0, 0, 1)", "copy(4, 0, 0, 0, 1)", "copy(0, 0, -1, 0, 1)",
            "copy(0, 0, 4, 0, 1)", "copy(MIN, 0, MAX, 0, 1)", "copy(4, 0, 4, 0, 1)");
        refused("-11", "-11", "copy(3, 0, 0, 0, 1)", "copy(0, 0, 3, 0, 1)", "copy(3, 0, 3, 0, 0)");
        refused("-13: unlike sorts", "-13", "copy(0, 0, 1, 0, 1)", "copy(1, 0, 0, 0, 1)", "copy(2, 0, 0, 0, 1)",
            "copy(1, 0, 2, 0, 1)", "copy(0, 0, 1, 0, 0)");
        refused("-12, from", "-12", "copy(0, -1, 0, 0, 1)", "copy(0, 4, 0, 0, 1)", "copy(0, 3, 0, 0, 2)", "copy(0, 0, 0, 0, 5)",
            "copy(0, MIN, 0, 0, 1)", "copy(0, MAX, 0, 0, 1)", "copy(0, 1, 0, 0, MAX)", "copy(0, MAX, 0, 0, MAX)");
        refused("-12, to", "-12", "copy(0, 0, 0, -1, 1)", "copy(0, 0, 0, 4, 1)", "copy(0, 0, 0, 3, 2)", "copy(0, 0, 0, 1, 4)",
            "copy(0, 0, 0, MIN, 1)", "copy(0, 0, 0, MAX, 1)", "copy(0, 0, 0, MAX, 4)");
        refused("-12, n below 0, too", "-12", "copy(0, 0, 0, 0, -1)", "copy(0, 1, 0, 1, -1)", "copy(0, 4, 0, 4, -1)",
            "copy(0, 0, 0, 0, MIN)");
        refused("-12, none of a place that is outside", "-12", "copy(0, 5, 0, 0, 0)", "copy(0, 0, 0, 5, 0)",
            "copy(0, -1, 0, 0, 0)", "copy(0, 0, 0, -1, 0)");
        refused("BAD ahead of all", "BAD", "copy(4, -1, 3, 0, 1)", "copy(3, -1, 4, 0, 1)", "copy(0, -1, 4, 9, -1)");
        refused("-11 ahead of -13 and -12", "-11", "copy(3, -1, 0, 0, 1)", "copy(0, -1, 3, 9, -1)", "copy(1, 9, 3, 9, 9)");
        refused("-13 ahead of -12", "-13", "copy(0, -1, 1, 0, 1)", "copy(0, 0, 2, 9, -1)", "copy(1, 9, 2, 9, 9)");
        check("n 0", "rich\n copy(0, 0, 0, 0, 0) ? 0 | copy(0, 4, 0, 4, 0) ? 0 | copy(0, 4, 0, 0, 0) ? 0",
            "copy(0, 0, 0, 4, 0) ? 0");
        check("of empty SHEETS", "sheet(0, 2, 0) | sheet(1, 2, 0) | copy(0, 0, 1, 0, 0) ? 0 | copy(0, 0, 0, 0, 0) ? 0",
            "copy(0, 0, 1, 0, 1) ! -12 | copy(0, 1, 1, 0, 0) ! -12");
        check("to its own place", "rich\n copy(0, 0, 0, 0, 4) ? 4 | copy(2, 5, 2, 5, 1) ? 1");
        String row = "sheet(0, 2, 4) | cell(0, 0, 1) | cell(0, 1, 2) | cell(0, 2, 3) | cell(0, 3, 4)\n";
        check("as they were: ahead", row + "copy(0, 1, 0, 0, 3) = 3\n", cellIs(0, 2, 0, 2), cellIs(0, 2, 1, 3),
            cellIs(0, 2, 2, 4), cellIs(0, 2, 3, 4));
        check("as they were: behind", row + "copy(0, 0, 0, 1, 3) = 3\n", cellIs(0, 2, 0, 1), cellIs(0, 2, 1, 1),
            cellIs(0, 2, 2, 2), cellIs(0, 2, 3, 3));
        check("all of it, to another one, which is longer", row + "sheet(1, 2, 6) | cell(1, 0, 9) | cell(1, 5, 9)",
            "copy(0, 0, 1, 1, 4) = 4 | copy(0, 0, 1, 3, 4) ! -12 | copy(1, 0, 0, 0, 5) ! -12\n",
            cellIs(1, 2, 0, 9), cellIs(1, 2, 1, 1), cellIs(1, 2, 4, 4), cellIs(1, 2, 5, 9), cellIs(0, 2, 0, 1));
        check("40 of them", "sheet(0, 0, 40) | cell(0, 0, 5) | cell(0, 39, 6) | sheet(1, 0, 40) | copy(0, 0, 1, 0, 41) ! -12",
            "copy(0, 0, 1, 0, 40) = 40\n", cellIs(1, 0, 0, 5), cellIs(1, 0, 39, 6));
    }

    private static void host() {
        promise = 49;
        refused("BAD: SHEET", "BAD", "heapsBy(-1, 0, 0, 1)", "heapsBy(4, 0, 0, 1)", "heapsBy(MIN, 0, 0, 1)",
            "heapsBy(MAX, 0, 0, 1)");
        refused("BAD: sort", "BAD", "heapsBy(0, -1, 0, 1)", "heapsBy(0, 3, 0, 1)", "heapsBy(0, MIN, 0, 1)",
            "heapsBy(0, MAX, 0, 1)", "heapsBy(3, -1, 0, 0)");
        refused("BAD: n", "BAD", "heapsBy(0, 2, 0, -1)", "heapsBy(0, 2, 0, 8)", "heapsBy(0, 2, 0, MIN)", "heapsBy(0, 2, 0, MAX)");
        refused("-11", "-11", "heapsBy(3, 0, 0, 1)", "heapsBy(3, 2, 0, 0)");
        refused("-13", "-13", "heapsBy(0, 0, 0, 1)", "heapsBy(0, 1, 0, 1)", "heapsBy(1, 1, 0, 1)", "heapsBy(1, 2, 0, 1)",
            "heapsBy(2, 0, 0, 1)", "heapsBy(2, 2, 0, 0)");
        refused("-12", "-12", "heapsBy(0, 2, -1, 1)", "heapsBy(0, 2, 2, 1)", "heapsBy(0, 2, 3, 1)", "heapsBy(0, 2, 4, 1)",
            "heapsBy(0, 2, MIN, 7)", "heapsBy(0, 2, MAX, 7)", "heapsBy(0, 2, -3, 2)", "heapsBy(1, 0, 1, 1)");
        refused("BAD ahead of all", "BAD", "heapsBy(3, 3, 0, 1)", "heapsBy(3, 0, -1, 8)", "heapsBy(0, 0, -1, 8)",
            "heapsBy(4, 3, -1, 8)");
        refused("-11 ahead of -12", "-11", "heapsBy(3, 0, -1, 1)", "heapsBy(3, 2, 99, 7)");
        refused("-13 ahead of -12", "-13", "heapsBy(0, 0, -1, 1)", "heapsBy(0, 1, 99, 7)");
        check("n 0: no place is looked at", "rich\n heapsBy(0, 2, 0, 0) ? 0 | heapsBy(0, 2, 4, 0) ? 0 | heapsBy(0, 2, -1, 0) ? 0",
            "heapsBy(0, 2, MAX, 0) ? 0");
        check("the first place, the last", "rich\n heapsBy(0, 2, 0, 1) = 1 | told(4, 0) = 1 | told(4, 1) = 2 | told(4, 2) = 3",
            "heapsBy(0, 2, 1, 1) = 1 | told(5, 0) = 2 | told(5, 1) = 3 | told(5, 2) = 4");
        check("n 7, of 21 numbers", "sheet(0, 0, 21) | cell(0, 18, 5) | cell(0, 19, 6) | cell(0, 20, 7)",
            "heapsBy(0, 0, 0, 7) = 7 | count(3) = 7 | told(6, 0) = 5 | told(6, 1) = 6 | told(6, 2) = 7");
        check("-12, what stood ahead came: six of seven", "sheet(0, 0, 20) | heapsBy(0, 0, 0, 7) = -12 | count(3) = 6");
        check("-12, what stood ahead came: one", "sheet(0, 0, 5) | cell(0, 0, 1) | heapsBy(0, 0, 0, 2) = -12 | count(3) = 1",
            "told(0, 0) = 1");
        check("-12, nothing stood ahead", "sheet(0, 0, 2) | heapsBy(0, 0, 0, 1) ! -12 | sheet(0, 0, 0)",
            "heapsBy(0, 0, 0, 1) ! -12");
        check("others are left out: BAD ones", "sheet(0, 2, 21) | cell(0, 0, 6) | cell(0, 3, -1) | cell(0, 7, 4096)",
            "cell(0, 10, -1) | cell(0, 14, 10) | cell(0, 17, -1) | cell(0, 19, 9)",
            "heapsBy(0, 2, 0, 7) = 1 | count(3) = 1 | told(0, 1) = 9 | heapsBy(0, 2, 0, 6) ? 0");
        check("others are left out: the least and the most come", "sheet(0, 2, 6) | cell(0, 0, 5) | cell(0, 1, 4095)",
            "cell(0, 2, 9) | heapsBy(0, 2, 0, 2) = 2 | told(0, 1) = 4095 | told(1, 1) = 0");
        check("others are left out: those without room", "heap(0, 0, 0)\n".repeat(6), "sheet(0, 2, 9) | cell(0, 0, 1)",
            "cell(0, 3, 2) | heapsBy(0, 2, 0, 3) = 1 | count(3) = 7 | told(6, 0) = 1 | heapsBy(0, 2, 0, 3) ? 0",
            "heapsBy(0, 2, 0, 4) ! -12");
        check("by a byte below 0 there is none", "sheet(0, 0, 3) | cell(0, 1, 128) | heapsBy(0, 0, 0, 1) ? 0 | cell(0, 1, 127)",
            "heapsBy(0, 0, 0, 1) = 1 | told(0, 1) = 127");
        check("they lie as the table does", "table(12, 5) | sheet(0, 0, 3) | cell(0, 0, 1) | cell(0, 2, 2)",
            "heapsBy(0, 0, 0, 1) = 1 | told(0, 3) = 3072");

        promise = 50;
        refused("BAD: kind", "BAD", "taken(0, -1)", "taken(0, 7)", "taken(12, MIN)", "taken(12, MAX)");
        refused("-12: i", "-12", "taken(-1, 0)", "taken(19, 0)", "taken(-1, 6)", "taken(19, 6)", "taken(MIN, 0)",
            "taken(MAX, 6)");
        refused("-11: nothing lies there", "-11", "taken(9, 6)", "taken(11, 6)", "taken(9, 0)", "taken(11, 5)", "taken(16, 0)",
            "taken(18, 5)", "taken(16, 6)", "taken(18, 6)");
        refused("-13", "-13", "taken(0, 0)", "taken(8, 5)", "taken(8, 0)", "taken(12, 6)", "taken(15, 6)", "taken(12, 2)",
            "taken(12, 3)", "taken(15, 1)", "taken(15, 5)");
        refused("BAD ahead of all", "BAD", "taken(-1, -1)", "taken(19, 7)", "taken(9, 7)", "taken(0, 7)", "taken(18, -1)");
        check("CARDS, the first and the last", "rich\n taken(0, 6) ? 1 | taken(1, 6) ? 0 | taken(8, 6) ? 0 | turn(256)",
            "taken(8, 6) ? 1 | table(12, 1) | taken(11, 6) ? 0 | turn(2048) | taken(11, 6) ? 1");
        check("CARDS, as many as there are", "table(1, 1) | taken(0, 6) ? 0 | taken(1, 6) ! -11 | taken(1, 0) ! -11");
        check("HEAPS, the first and the last", "full\n taken(12, 0) ? 0 | taken(18, 0) ? 6 | taken(13, 1) ? 1 | taken(13, 0) ? 1",
            "taken(18, 1) ! -13 | drop() | taken(18, 0) ! -11 | taken(17, 5) ? 5");
        int[][] is = {{0}, {0, 1}, {0, 2}, {0, 1, 3}, {0, 4}, {0, 2, 5}};
        for (int kind = 0; kind < 6; kind++) {
            StringBuilder calls = new StringBuilder("heap(0, 0, 0) | heap(" + kind + ", 0, 0)\n");
            for (int as = 0; as < 6; as++) {
                boolean isOne = false;
                for (int each : is[kind]) {
                    isOne |= each == as;
                }
                calls.append("taken(13, ").append(as).append(isOne ? ") ? 1\n" : ") ! -13\n");
            }
            check("also of one that is one", calls.toString());
        }
    }
}
