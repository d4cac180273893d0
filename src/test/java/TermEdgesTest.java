import java.util.List;

/** Each sentence of the document's terms that names a boundary case. */
public final class TermEdgesTest {
    public static void main(String[] args) {
        cards();
        wide();
        heapsMembersMore();
        heapRowColumn();
        figureAndUneven();
        sum();
        holdsAndSigns();
        tape();
        tokens();
        everyByte();
        grammar();
        endsTooEarly();
        openOnes();
        numbersOfTexts();
        bounds();
        wraps();
        truths();
        names();
        inThought();
        neighbours();
        twos();
        ways();
        likeliest();
        seeds();
        found();
        anImage();
        sheets();
        Due.end();
    }

    private static void check(String sentence, String... calls) {
        Script.check("term " + sentence, calls);
    }

    private static void fine(String sentence, String... texts) {
        Script.fine("term " + sentence, texts);
    }

    private static void fault(String sentence, String... texts) {
        Script.fault("term " + sentence, texts);
    }

    private static void cards() {
        check("CARDS, 9 at first", "count(0) = 9 | turn(256) = 256 | turn(512) ! BAD");
        check("CARDS, n 1 at least", "rich\n table(0, 3) ! BAD | table(-1, 3) ! BAD | table(MIN, 3) ! BAD | table(1, 3) = 9",
            "count(0) = 1");
        check("CARDS, n 12 at most", "rich\n table(13, 3) ! BAD | table(MAX, 3) ! BAD | table(12, 3) = 9 | count(0) = 12");
        for (int n = 1; n <= 12; n++) {
            check("CARDS 0 .. n - 1", "table(" + n + ", 3) | count(0) = " + n, "asks(0, 0) = 10 | asks(0, " + (n - 1) + ") = 10",
                "asks(0, -1) ! -5 | asks(0, " + n + ") ! -5");
        }
        check("CARDS, each shows its face at first", "count(2) = 0 | taken(0, 6) = 0 | taken(8, 6) = 0 | reads() = STATE");
    }

    private static void wide() {
        check("WIDE, 3 at first", "count(1) = 3 | heap(1, 0, 0) | told(0, 3) = 7");
        check("WIDE, 1 at least", "rich\n table(9, 0) ! BAD | table(9, -1) ! BAD | table(9, MIN) ! BAD | table(9, 1) = 9",
            "count(1) = 1");
        check("WIDE, 12 at most", "rich\n table(9, 13) ! BAD | table(9, MAX) ! BAD | table(9, 12) = 9 | count(1) = 12");
        check("WIDE, more than there are CARDS", "table(1, 12) = 9 | count(0) = 1 | count(1) = 12 | swept(0, 0) = 2",
            "swept(1, 0) = -5");
        check("WIDE 1: each CARD is a ROW, COLUMN 0", "table(12, 1)", "heap(1, 0, 0) | told(0, 3) = 1 | heap(1, 0, 9)",
            "told(1, 3) = 512",
            "heap(3, 0, 0) | told(2, 3) = 4095 | heap(3, 0, 1) | told(3, 3) = 0");
        check("WIDE 12: each CARD is a COLUMN, ROW 0", "table(12, 12)", "heap(3, 0, 0) | told(0, 3) = 1 | heap(3, 0, 9)",
            "told(1, 3) = 512",
            "heap(1, 0, 0) | told(2, 3) = 4095 | heap(1, 0, 1) | told(3, 3) = 0");
        check("ROW, its number by WIDE (cut)", "table(12, 5)", "heap(1, 0, 0) | told(0, 3) = 0b11111 | heap(1, 0, 1)",
            "told(1, 3) = 0b1111100000",
            "heap(1, 0, 2) | told(2, 3) = 0b110000000000 | heap(1, 0, 3) | told(3, 3) = 0");
        check("COLUMN, what is left", "table(12, 5)", "heap(3, 0, 0) | told(0, 3) = 0b10000100001 | heap(3, 0, 1)",
            "told(1, 3) = 0b100001000010",
            "heap(3, 0, 2) | told(2, 3) = 0b10000100 | heap(3, 0, 4) | told(3, 3) = 0b1000010000 | heap(3, 0, 5)",
            "told(4, 3) = 0");
    }

    private static void heapsMembersMore() {
        check("HEAPS, numbered from 0 on, 7 at most", "heap(0, 1, 0) = 0 | heap(1, 1, 0) = 1 | heap(2, 1, 0) = 2",
            "heap(3, 1, 0) = 3",
            "heap(4, 1, 0) = 4 | heap(5, 1, 0) = 5 | heap(0, 1, 0) = 6 | heap(0, 1, 0) ! FULL | count(3) = 7 | told(6, 1) = 1",
            "told(7, 1) ! -5");
        check("HEAPS, none at first", "count(3) = 0 | told(0, 0) ! -5 | signs(0) = 0 | signs(1) = 0 | signs(2) = 0");
        check("KIND, 0 .. 5", "rich\n heap(-1, 0, 0) ! BAD | heap(6, 0, 0) ! BAD | heap(MIN, 0, 0) ! BAD | heap(MAX, 0, 0) ! BAD",
            "heap(0, 0, 0) = 4 | told(4, 0) = 0 | heap(5, 0, 0) = 5 | told(5, 0) = 5");
        check("MEMBERS, bits 0 .. 11", "rich\n heap(0, -1, 0) ! BAD | heap(0, 4096, 0) ! BAD | heap(0, 4097, 0) ! BAD",
            "heap(0, MIN, 0) ! BAD",
            "heap(0, MAX, 0) ! BAD | heap(0, 0, 0) = 4 | told(4, 1) = 0 | heap(0, 4095, 0) = 5 | told(5, 1) = 4095");
        check("MEMBERS, of every KIND", "rich\n heap(1, 4096, 0) ! BAD | heap(2, -1, 0) ! BAD | heap(3, 4096, 0) ! BAD",
            "heap(4, 4096, 0) ! BAD | heap(5, -1, 0) ! BAD | heap(1, 4095, 0) = 4 | told(4, 1) = 4095");
        check("MORE, 0 .. 9", "rich\n heap(0, 0, -1) ! BAD | heap(0, 0, 10) ! BAD | heap(0, 0, MIN) ! BAD",
            "heap(0, 0, MAX) ! BAD",
            "heap(0, 0, 0) = 4 | told(4, 2) = 0 | heap(0, 0, 9) = 5 | told(5, 2) = 9");
        check("MORE, of every KIND", "rich\n heap(1, 0, 10) ! BAD | heap(2, 0, 10) ! BAD | heap(3, 0, -1) ! BAD",
            "heap(4, 0, 10) ! BAD",
            "heap(5, 0, -1) ! BAD | heap(5, 0, 9) = 4 | told(4, 2) = 9");
        check("MEMBERS that are no CARDS are kept, not IN", "table(3, 3) | heap(0, 4095, 0) | told(0, 1) = 4095 | told(0, 3) = 7",
            "table(12, 3) | told(0, 3) = 4095 | table(1, 1) | told(0, 3) = 1");
    }

    private static void heapRowColumn() {
        check("HEAP without MEMBERS: always even", "heap(0, 0, 0) | told(0, 3) = 0 | told(0, 4) = 0 | turn(511)",
            "told(0, 4) = 0");
        check("HEAP, what is left by 2", "table(12, 3) | heap(0, 4095, 0) | told(0, 4) = 0 | turn(1) | told(0, 4) = 1 | turn(2)",
            "told(0, 4) = 0",
            "turn(4092) | told(0, 4) = 0 | turn(2048) | told(0, 4) = 1");
        check("HEAP, MORE does not matter", "heap(0, 3, 9) | told(0, 3) = 3 | look(1) = 1 | look(2) = 1 | look(3) = 0");
        check("ROW, MEMBERS do not matter", "heap(1, 7, 2) | told(0, 3) = 448 | look(64) = 1 | look(7) = 0 | look(448) = 1",
            "look(192) = 0");
        check("ROW, MORE past the last ROW: none is IN", "heap(1, 4095, 3) | told(0, 3) = 0 | look(511) = 0 | heap(1, 4095, 9)",
            "told(1, 3) = 0");
        check("ROW, the last one is short", "table(10, 3) | heap(1, 0, 3) | told(0, 3) = 512 | look(512) = 1 | look(511) = 0");
        check("COLUMN, MEMBERS do not matter", "heap(3, 4095, 2) | told(0, 3) = 0b100100100 | look(4) = 1 | look(3) = 0",
            "look(511) = 1");
        check("COLUMN, MORE is WIDE: none is IN", "heap(3, 4095, 3) | told(0, 3) = 0 | look(511) = 0");
    }

    private static void figureAndUneven() {
        int[] figures = {0b101010101010, 0b110011001100, 0b11110000, 0b111100000000};
        for (int more = 0; more <= 9; more++) {
            check("FIGURE, bit (MORE modulo 4)", "table(12, 3) | heap(2, 4095, " + more + ") | told(0, 3) = "
                + figures[more % 4]);
            check("UNEVEN, as a FIGURE, without MEMBERS", "table(12, 3) | heap(5, 0, " + more + ") | told(0, 3) = "
                + figures[more % 4]);
            check("UNEVEN, just one is so: all are MEMBERS", "table(12, 3) | heap(5, 4095, " + more + ") | told(0, 3) = "
                + (4095 ^ figures[more % 4]));
            check("UNEVEN, just one is so: both or neither is not IN", "table(12, 3) | heap(5, " + figures[more % 4] + ", " + more
                + ") | told(0, 3) = 0");
        }
        check("FIGURE, no CARD has bit 3 of eight, one of nine", "table(8, 3) | heap(2, 0, 3) | told(0, 3) = 0 | look(255) = 0",
            "table(9, 3) | told(0, 3) = 256 | look(256) = 1");
        check("FIGURE, CARD 0 has no bit", "table(1, 1) | heap(2, 1, 0) | heap(2, 1, 1) | heap(2, 1, 2) | heap(2, 1, 3)",
            "look(1) = 0");
        check("UNEVEN, 1 less a FIGURE's", "heap(5, 0, 0) | told(0, 4) = 1 | look(2) = 0 | look(10) = 1 | look(1) = 1",
            "look(3) = 0");
        check("UNEVEN, none IN: never HOLDS", "table(1, 1) | heap(5, 0, 0) | told(0, 3) = 0 | told(0, 4) = 1 | look(1) = 1",
            "lay(1, 0) = NONE");
        check("UNEVEN, MEMBERS that are no CARDS are not IN", "table(2, 2) | heap(5, 4095, 0) | told(0, 3) = 1 | look(1) = 0",
            "look(2) = 1");
    }

    private static void sum() {
        check("SUM, a CARD's number more than a HEAP's: 1 .. 12", "table(12, 3) | heap(4, 4095, 9) | look(1) = 1 | look(2) = 2",
            "look(512) = 10 | look(1024) = 0 | look(2048) = 1 | look(4095) = 1");
        check("SUM, only MEMBERS", "table(12, 3) | heap(4, 2, 9) | told(0, 3) = 2 | look(4095) = 2 | look(4093) = 0");
        check("SUM without MEMBERS", "table(12, 3) | heap(4, 0, 0) | told(0, 3) = 0 | look(4095) = 0");
        for (int more = 0; more <= 9; more++) {
            int divisor = more + 2;
            String heap = "table(12, 3) | heap(4, 4095, " + more + ")";
            check("SUM, what is left by (MORE and 2): one less stays", heap, "look(" + (1 << (divisor - 2)) + ") = "
                + (divisor - 1));
            check("SUM, what is left by (MORE and 2): as much is 0", heap, "look(" + (1 << (divisor - 1)) + ") = 0");
            check("SUM, what is left by (MORE and 2): all of it", heap, "look(4095) = " + 78 % divisor);
        }
    }

    private static void holdsAndSigns() {
        check("HOLDS, if its SIGN is 0: 2 and 10 don't", "table(12, 3) | heap(4, 4095, 9) | signs(1) = 0 | turn(2)",
            "told(0, 4) = 2 | signs(1) = 1",
            "turn(514) | told(0, 4) = 10 | signs(1) = 1 | signs(2) = 1 | turn(1) | told(0, 4) = 0 | signs(1) = 0");
        check("ALL HOLD, if there is no HEAP", "turn(5) | one() = 511 | lay(0, 0) = 0 | likely(0) = 0");
        check("ALL HOLD, if each does: not if one doesn't", "heap(0, 1, 0) | heap(0, 2, 0) | turn(2) | lay(0, 0) = NONE",
            "turn(3) | lay(0, 0) = NONE | turn(1) | lay(0, 0) = 0");
        check("SIGNS, four bits each, HEAP 0's the lowest", "table(12, 3) | heap(4, 512, 9) | heap(0, 0, 0) | heap(0, 0, 0)",
            "heap(0, 0, 0)",
            "heap(0, 0, 0) | heap(0, 0, 0) | heap(4, 256, 9) | look(512) = 10 | look(256) = 150994944 | look(768) = 150994954");
        check("SIGNS, all as high as can be", "table(12, 3)", "heap(4, 512, 9)\n".repeat(7), "turn(512) | signs(0) = 178956970");
        check("SIGNS, no HEAP", "turn(511) | signs(0) = 0 | look(511) = 0");
    }

    private static void tape() {
        String hundred = "feed(5, 32, 32, 32, 32, 32)\n".repeat(20);
        check("THE TAPE, 160 bytes at most", hundred, "feed(5, 32, 32, 32, 32, 32)\n".repeat(11),
            "count(6) = 155 | feed(5, 32, 32, 32, 32, 32) = 160 | feed(1, 32, 32, 32, 32, 32) ! FULL | count(6) = 160");
        fine("THE TAPE, a TEXT of 160 bytes", "turns 1;swaps 2;looks 3;" + " ".repeat(136), " ".repeat(136)
            + "turns 1;swaps 2;looks 3;",
            "turns 1" + "+1".repeat(68) + ";swaps 2;looks 3;");
        check("THE TAPE, empty at first", "count(6) = 0 | text() = -100");
    }

    private static void tokens() {
        fault("TOKENS, each as long as can be", "@turnsturns 1;", "@turnsx 1;", "turns @notcard;", "turns @cardcard;",
            "turns @oror;", "turns 1 @andnot 1;");
        fine("TOKENS, each as long as can be: a digit ends a WORD", "turns1;swaps2;looks3;",
            "turns 1and 2or 3;swaps not1;looks 1or 2;");
        fine("NUMBERS, no more than 4 digits", "turns 0;swaps 9999;looks 0000;", "turns 0001;swaps 1000;looks 1234;");
        fault("NUMBERS, more than 4 digits are too long", "turns @10000;swaps 1;looks 1;", "turns @00000;swaps 1;looks 1;",
            "turns @00001;",
            "turns 1;swaps 1;looks @123456789012345678901234567890;", "turns 1+@12345*2;");
        fine("MARKS ( ) ; + - * < =", "turns(1)+2-3*4<5;swaps(1)=2;looks-1;");
        fault("MARKS, no others", "turns 1@>2;", "turns 1@/2;", "turns 1@,2;", "turns 1@.2;", "turns 1@!2;", "turns 1@&2;",
            "turns 1@|2;", "turns 1@%2;");
        fine("blanks (32, 10) may stand between: many", "~ ~turns ~ ~1~~  ;  swaps~1 ;~looks~1~;~ ~",
            "turns ( 1 ) + - 2 < - 3 ; swaps 1 ; looks 1 ;");
        fine("blanks may stand between: or none", "turns(1);swaps-1;looks 1*(2);");
        fault("blanks, none inside a TOKEN", "@tur ns 1;", "turns 1 @2;", "turns 1;swaps 1;@loo ks 1;", "turns 12 @34;");
        fault("a WORD that is neither KEY nor NAME", "turns @cards;", "turns @car;", "turns @a;", "turns @z;", "turns @turn;",
            "turns 1 + @manys;", "@looksturns", "turns @fail;");
        fault("a WORD, letters a .. z alone", "turns @Card;", "turns card@S;", "@Turns 1;");
        fault("a KEY where it can't stand", "turns @turns;", "turns @swaps 1;", "turns 1 @looks;", "turns @or;", "turns @and;",
            "@not 1;");
        fault("a NAME where it can't stand", "@card 1;", "turns 1 @card;", "turns card @row;", "turns 1; @many 1;");
    }

    /** What each of the 256 bytes is: told by where the fault is, or that there is none. */
    private static void everyByte() {
        for (int b = 0; b < 256; b++) {
            boolean isBlank = b == 32 || b == 10;
            boolean isDigit = b >= 48 && b <= 57;
            boolean isLetter = b >= 97 && b <= 122;
            boolean joins = b == '+' || b == '-' || b == '*' || b == '<' || b == '=';
            String put = "\nfeed(1, " + b + ", 0, 0, 0, 0)\n";
            check("blanks are 32, 10: byte " + b + " behind the last ;", "tape \"turns 1;swaps 1;looks 1;\"", put,
                "text() = " + (isBlank ? 1 : -124));
            check("byte " + b + " between numbers", "tape \"turns 1\"", put, "tape \"1;swaps 1;looks 1;\"",
                "text() = " + (isDigit || joins ? 1 : isBlank || b == ';' ? -108 : -107));
            int behindCard = joins ? 1 : isLetter ? -106 : isBlank || b == ';' ? -111 : -110;
            check("WORDS are letters a .. z: byte " + b + " behind card", "tape \"turns card\"", put,
                "tape \"1;swaps 1;looks 1;\"",
                "text() = " + behindCard);
            int behindNumber = joins ? 1 : isDigit ? -106 : isBlank || b == ';' ? -110 : -109;
            check("NUMBERS are digits: byte " + b + " behind three digits", "tape \"turns 123\"", put,
                "tape \"5;swaps 1;looks 1;\"",
                "text() = " + behindNumber);
            int first = isDigit || isBlank || b == '-' ? 1 : b == '(' ? -108 : -106;
            check("a byte that begins no TOKEN: byte " + b + " ahead of a number", "tape \"turns \"", put,
                "tape \"1;swaps 1;looks 1;\"",
                "text() = " + first);
        }
    }

    private static void grammar() {
        fault("TEXT: turns E ; swaps E ; looks E ;", "@swaps 1;turns 1;looks 1;", "turns 1;@looks 1;swaps 1;",
            "turns 1;swaps 1;@turns 1;",
            "turns 1;swaps 1;looks 1;@;", "turns 1;swaps 1;looks 1;@turns 1;", "turns 1;swaps 1;looks 1; ~@1", "turns 1@swaps 1;",
            "turns 1 @swaps 1;", "turns @;", "turns 1;swaps @;", "turns 1;swaps 1;looks @;", "turns 1;@;", "@;");
        fine("E: one AND, or more", "turns 1 or 2;swaps 1 or 2 or 3 and 4;looks 1;");
        fault("E: AND { or AND }", "turns @or 1;", "turns 1 or @;", "turns 1 or @or 1;", "turns 1 or @and 1;");
        fault("AND: NOT { and NOT }", "turns @and 1;", "turns 1 and @;", "turns 1 and @and 1;", "turns 1 and @or 1;");
        fine("NOT: not NOT, or SUM", "turns not 1;swaps not not 1;looks not 1 < 2 and not 1 or not 2;");
        fault("NOT, not inside a SUM", "turns 1 + @not 1;", "turns 1 * @not 1;", "turns - @not 1;", "turns 1 < @not 1;",
            "turns 1 @not 1;", "turns not @;");
        fault("NOT: perhaps < or = and a SUM, once", "turns 1<2@<3;", "turns 1<2@=3;", "turns 1=2@<3;", "turns 1=2@=3;",
            "turns @<1;", "turns 1<@;", "turns 1<@<2;", "turns not 1<2@<3;");
        fault("SUM: TERM { + or - TERM }", "turns @+1;", "turns 1+@;", "turns 1+@+1;", "turns 1-@+1;", "turns 1-@;");
        fault("TERM: ONE { * ONE }", "turns @*1;", "turns 1*@;", "turns 1*@*1;", "turns 1+@*1;");
        fault("ONE, a NUMBER", "turns 1 @1;", "turns (1)@1;", "turns card @1;");
        fine("ONE: - ONE", "turns -1;swaps --1;looks 1--1*-card;");
        fault("ONE: - ONE", "turns -@;", "turns -@*1;", "turns -@+1;", "turns -@)1;");
        fine("ONE: ( E )", "turns (1 or 2);swaps (not 1);looks ((1<2)=(2<1));");
        fault("ONE: ( E )", "turns (@);", "turns (1@;", "turns 1@);", "turns (1)@);", "turns ((1)@;", "turns (1 @2);",
            "turns 1@(2);", "turns (1)@(2);");
        fault("FAULT, the first one of several", "turns @12345 ! ;", "turns @! 12345;", "turns 1 @2 12345 !", "turns @x 12345;",
            "turns 1;@1 ! x", "turns (((((@( 12345 !", "turns 1 @) !");
    }

    /** A text that has each token of the grammar, cut behind each of them. */
    private static void endsTooEarly() {
        List<String> tokens = List.of("turns", "not", "(", "1", "+", "card", "-", "-", "2", ")", "and", "3", "<", "4", "or",
            "row", "*", "5", ";",
            "swaps", "6", "=", "many", ";", "looks", "(", "back", ")", ";");
        for (int many = 0; many < tokens.size(); many++) {
            String text = String.join(" ", tokens.subList(0, many));
            fault("FAULT, the text's size, if it ends too early", text + "@", text + " ~ @");
        }
        fine("FAULT, none, if it ends in time", String.join(" ", tokens), String.join(" ", tokens) + " ~ ");
        fault("FAULT, the text's size: 160", "turns 1;swaps 2;looks 3" + " ".repeat(137) + "@", " ".repeat(160) + "@", "turns 1"
            + "+1".repeat(76) + "+@");
        check("FAULT, the first and the last place", "text() = -100", "feed(5, 32, 32, 32, 32, 32)\n".repeat(32),
            "text() = -260");
        fault("FAULT, at the last byte", " ".repeat(159) + "@!", "turns 1" + "+1".repeat(76) + "@!");
    }

    private static void openOnes() {
        fine("FAULT, 5 of ( are open", "turns (((((1)))));swaps 1;looks 1;");
        fault("FAULT, a ( while 5 are open", "turns (((((@(1))))));swaps 1;looks 1;");
        fine("FAULT, 5 of not are open", "turns not not not not not 1;swaps 1;looks 1;");
        fault("FAULT, a not while 5 are open", "turns not not not not not @not 1;swaps 1;looks 1;");
        fine("FAULT, 5 of - are open", "turns -----1;swaps 1;looks 1;");
        fault("FAULT, a - while 5 are open", "turns -----@-1;swaps 1;looks 1;");
        fine("FAULT, 5 of these are open, of any", "turns not(not(-1));swaps (-(-(1)));looks not not(--1);",
            "turns ((((-1))));swaps not not not not-1;looks -(-(-1));");
        fault("FAULT, while 5 of these are open, of any", "turns not(not(-@(1)));", "turns (-(-(@-1)));", "turns not not(--@-1);",
            "turns not not not not(@not 1);",
            "turns ((((not @-1))));", "turns -(-(-@(1)));", "turns not not not not -@-1;");
        fine("FAULT, - between ONES is not counted", "turns (((((1-2-3)))));swaps -----1-1;looks 1-1-1-1-1-1-1-1;");
        fine("FAULT, a ( is open till its )",
            "turns (((((1)))))+(((((2)))));swaps (1)*(2)*(3)*(4)*(5)*(6)*(7);looks ((((1)+(2))));");
        fault("FAULT, a ( is open till its ), not before", "turns (((((1)+(2)*(3 or @(4))))));", "turns (((((1)+(2+@(3)))));");
        fine("FAULT, not is open till what it belongs to ends",
            "turns not not not not not 1 and not not not not not 1;swaps not 1 or (((((1)))));looks (not 1 and ((((1)))));");
        fault("FAULT, not is open till what it belongs to ends, not before", "turns not 1+((((@(1)))));",
            "turns not not not not not 1+@(1);", "turns not not not not not 1<@(1);", "turns not not not not not 1*@-1;",
            "turns not not not not not 1=2+@-1;");
        fine("FAULT, - is open till what it belongs to ends", "turns -----1*-----1;swaps -----1+-----1;looks -1*(((((1)))));");
        fault("FAULT, - is open till what it belongs to ends, not before", "turns -((((@(1)))));", "turns -----@(1);",
            "turns -(--(@-1));",
            "turns -(--(1*@-1));");
        fine("FAULT, each part begins with none open", "turns (((((1)))));swaps (((((1)))));looks -----1;");
    }

    private static void numbersOfTexts() {
        String text = "tape \"turns %d;swaps 1;looks 1;\"\n";
        StringBuilder calls = new StringBuilder("count(4) = 1\n");
        for (int t = 1; t < 6; t++) {
            calls.append(String.format(text, t)).append("text() = ").append(t).append(" | count(4) = ")
                .append(t + 1).append('\n');
        }
        check("TEXTS, numbered from 0 on, 6 at most", calls.toString(), String.format(text, 6), "text() ! FULL | count(4) = 6",
            "count(6) = 24",
            "force(5) = 0 | asks(0, 0) = 5 | force(6) ! BAD");
        check("TEXT 0, at first, and THE LAW", "count(4) = 1 | count(5) = 0 | asks(0, 0) = 10 | asks(1, 0) = 5 | asks(2, 0) = 10",
            "force(0) = 0");
        check("TEXT 0, looks 1 + many", "table(1, 1) | asks(2, 0) = 2 | table(12, 1) | asks(2, 11) = 13 | asks(0, 11) = 10",
            "asks(1, 11) = 5");
    }

    /** What the law says of card 7 of twelve, five wide, it alone showing its back, two heaps failing. */
    private static void says(String sentence, String e, int want) {
        check(sentence + ": " + e, "table(12, 5) | turn(128) | heap(0, 128, 0) | heap(0, 1, 0) | heap(4, 128, 9)",
            "tape \"turns 0;swaps 0;looks " + e + ";\"\ntext() = 1 | force(1) = 0 | asks(2, 7) ? " + want);
    }

    private static void bounds() {
        String each = "TEXT, each 0 .. 99, else the bound";
        says(each, "0", 0);
        says(each, "1", 1);
        says(each, "-1", 0);
        says(each, "98", 98);
        says(each, "99", 99);
        says(each, "100", 99);
        says(each, "9999", 99);
        says(each, "-9999", 0);
        check(each + ": turns, swaps", "tape \"turns 100;swaps 0-1;looks 0;\"\ntext() | force(1) | asks(0, 0) = 99",
            "asks(1, 0) = 0 | asks(2, 0) = 0");
        check(each + ": turns, swaps", "tape \"turns 0-1;swaps 100;looks 99;\"\ntext() | force(1) | asks(0, 0) = 0",
            "asks(1, 0) = 99 | asks(2, 0) = 99");
        says(each + ", by the whole E alone", "100-1+0*200", 99);
        says(each + ", by the whole E alone", "9999-9900", 99);
        says(each + ", by the whole E alone", "-5+6", 1);
    }

    private static void wraps() {
        // 9999 * 9999 * 21 + 9999 * 4790 + 8416 is 2147483647
        String most = "9999*9999*21+9999*4790+8416";
        String wrapping = "E, an int (32 bits, wrapping)";
        says(wrapping, most, 99);
        says(wrapping, most + "+1", 0);
        says(wrapping, most + "+1<0", 1);
        says(wrapping, most + "<0", 0);
        says(wrapping, "0<" + most, 1);
        says(wrapping, "-(" + most + ")-1<0", 1);
        says(wrapping, "-(" + most + ")-2", 99);
        says(wrapping, "-(" + most + ")-2=" + most, 1);
        says(wrapping + ", the least one's -", "-(-(" + most + ")-1)<0", 1);
        says(wrapping + ", the least one's -", "-(" + most + "+1)=" + most + "+1", 1);
        says(wrapping + ", times", "(" + most + ")*2=-2", 1);
        says(wrapping + ", times", "(" + most + "+1)*2", 0);
        says(wrapping + ", times", "(" + most + "+1)*-1<0", 1);
        says(wrapping + ", < is of what is left then", most + "+1<" + most, 1);
    }

    private static void truths() {
        String truth = "E, of or, and, not, <, = 1 or 0 (what is not 0 is true)";
        says(truth, "0 or 0", 0);
        says(truth, "7 or 0", 1);
        says(truth, "0 or -7", 1);
        says(truth, "7 or 9", 1);
        says(truth, "7 and 9", 1);
        says(truth, "-1 and 9999", 1);
        says(truth, "7 and 0", 0);
        says(truth, "0 and 0", 0);
        says(truth, "not 0", 1);
        says(truth, "not 1", 0);
        says(truth, "not 2", 0);
        says(truth, "not -1", 0);
        says(truth, "not not 5", 1);
        says(truth, "4<5", 1);
        says(truth, "5<5", 0);
        says(truth, "6<5", 0);
        says(truth, "5=5", 1);
        says(truth, "5=6", 0);
        says(truth, "6=5", 0);
        says(truth, "(0<5)+(5=5)+(not 0)+(1 or 0)+(1 and 1)", 5);
        says("E, a SUM alone is no truth", "5", 5);
        says("E, a SUM alone is no truth", "(5)", 5);
    }

    private static void names() {
        says("NAMES, card", "card", 7);
        says("NAMES, row", "row", 1);
        says("NAMES, column", "column", 2);
        says("NAMES, back", "back", 1);
        says("NAMES, many", "many", 12);
        says("NAMES, fails", "fails", 2);
        check("NAMES, card: the first and the last", "table(12, 5)\n tape \"turns card;swaps row;looks column;\"\ntext()",
            "force(1)",
            "asks(0, 0) = 0 | asks(0, 11) = 11 | asks(1, 4) = 0 | asks(1, 5) = 1 | asks(1, 11) = 2 | asks(2, 0) = 0",
            "asks(2, 4) = 4 | asks(2, 5) = 0 | asks(2, 11) = 1");
        check("NAMES, row, column: WIDE 1", "table(12, 1)\n tape \"turns card;swaps row;looks column;\"\ntext() | force(1)",
            "asks(1, 11) = 11 | asks(2, 11) = 0");
        check("NAMES, row, column: WIDE 12", "table(12, 12)\n tape \"turns card;swaps row;looks column;\"\ntext() | force(1)",
            "asks(1, 11) = 0 | asks(2, 11) = 11");
        check("NAMES, back: 1, if it shows its BACK, else 0", "tape \"turns back;swaps many;looks fails;\"\ntext() | force(1)",
            "asks(0, 8) = 0 | turn(256) | asks(0, 8) = 1 | asks(0, 7) = 0 | turn(256) | asks(0, 8) = 0");
        check("NAMES, back: else 0, no less", "tape \"turns 5+back;swaps 1;looks 1;\"\ntext() | force(1)",
            "asks(0, 8) = 5 | turn(256) | asks(0, 8) = 6");
        check("NAMES, many: 1 .. 12", "tape \"turns back;swaps many;looks fails;\"\ntext() | force(1)",
            "asks(1, 0) = 9 | table(1, 1) | asks(1, 0) = 1 | table(12, 1) | asks(1, 0) = 12");
        check("NAMES, fails: none .. all seven, now", "tape \"turns back;swaps many;looks fails;\"\ntext() | force(1)",
            "asks(2, 0) = 0",
            "heap(0, 1, 0)\n".repeat(7), "asks(2, 8) = 0 | turn(1) | asks(2, 8) = 7 | drop() = 6 | asks(2, 8) = 6 | turn(1)",
            "asks(2, 8) = 0");
    }

    private static void inThought() {
        String[] asked = {"count(2)", "asks(0, 1)", "told(0, 4)", "signs(0)", "signs(1)", "signs(2)", "look(511)", "one()",
            "two(0)", "two(1)", "counts(4)", "unseen(0)",
            "unseen(1)", "apart(0)", "apart(1)", "reach(3)", "lay(511, 0)", "lay(511, 1)", "needs(11)", "can(8)", "reads()",
            "coin(3)", "swaps(0)", "swaps(1)", "swaps(2)",
            "swept(0, 0)", "swept(1, 1)", "swept(2, 2)", "cuts(0)", "cuts(1)", "cuts(2)", "moves(0)", "moves(1)", "likely(0)",
            "likely(1)", "likely(2)", "right(0)", "right(1)",
            "cheapest(0)", "cheapest(1)", "lies()", "idle()", "judge(0)", "match(0, 0)", "match(0, 1)", "match(0, 2)",
            "match(0, 3)", "tells(0, 511, 0)", "tells(0, 511, 1)",
            "evening(7, 0)", "evening(7, 1)", "odds(7, 50, 0)", "odds(7, 50, 1)", "taken(0, 6)", "taken(12, 1)"};
        for (String call : asked) {
            check("what is asked changes nothing", "rich\n" + call + " ?");
            check("what is asked changes nothing", "full\n" + call + " ?");
            check("what is asked changes nothing, of a new object", call + " ?");
        }
        check("CARDS are turned in thought", "rich\n table(8, 4) | turn(37) | reads() ? 7 | coin(0) ? 7 | count(2) = 37");
    }

    private static void neighbours() {
        check("NEIGHBOURS, a CARD and the next one: the last one has none", "table(12, 4) | turn(1) | swaps(0) = 1 | turn(2049)",
            "swaps(0) = 0b10000000000");
        check("NEIGHBOURS, of one CARD none", "table(1, 1) | turn(1) | swaps(0) = 0 | swaps(2) = 0 | likely(2) = 110");
        check("NEIGHBOURS, in two ROWS, too", "table(12, 4) | turn(15) | swaps(0) = 8");
        check("UNLIKE, all BACKS are alike as all faces are", "swaps(0) = 0 | turn(511) | swaps(0) = 0 | turn(170)",
            "swaps(0) = 0b11111111");
    }

    private static void twos() {
        for (int n = 1; n <= 12; n++) {
            boolean isTwo = n == 1 || n == 2 || n == 4 || n == 8;
            check("TWOS, 1, 2, 4, 8", "table(" + n + ", 3)",
                isTwo ? "reads() ? 0 | coin(0) ? 0" : "reads() ! STATE | coin(0) ! STATE");
        }
    }

    private static void ways() {
        check("WAYS 0, nothing was done (100)", "tape \"turns 0;swaps 0;looks 0;\"\ntext() | force(1) | likely(0) = 0",
            "likely(1) = 100 | likely(2) = 100");
        check("WAYS 0, not if not ALL HOLD", "heap(0, 1, 0) | turn(1)\ntape \"turns 0;swaps 0;looks 0;\"\ntext() | force(1)",
            "likely(0) = NONE | likely(1) = 0 | likely(2) = 0");
        check("WAYS 1 and c, the first", "table(12, 4) | heap(0, 1, 0) | turn(1)\ntape \"turns 1;swaps 0;looks 0;\"\ntext()",
            "force(1) | likely(0) = 1 | likely(1) = 1 | likely(2) = 1");
        check("WAYS 1 and c, the last", "table(12, 4) | heap(0, 2048, 0) | turn(2048)\ntape \"turns 1;swaps 0;looks 0;\"\ntext()",
            "force(1) | likely(0) = 12 | likely(2) = 1");
        check("WAYS 21 and c, the first", "table(12, 4) | heap(0, 1, 0) | turn(1)\ntape \"turns 0;swaps 1;looks 0;\"\ntext()",
            "force(1) | likely(0) = 21 | likely(1) = 1 | likely(2) = 1");
        check("WAYS 21 and c, the last", "table(12, 4) | heap(0, 2048, 0)",
            "turn(2048)\ntape \"turns 0;swaps 1;looks 0;\"\ntext() | force(1) | likely(0) = 31 | likely(2) = 1");
        check("WAYS 21 and c, none of the last CARD and the first", "table(12, 4) | heap(0, 2048, 0)",
            "turn(2048)\ntape \"turns 0;swaps card=11;looks 0;\"\ntext() | force(1) | likely(0) = NONE | likely(2) = 0");
        check("WAYS 21 and c, if UNLIKE", "table(12, 4) | heap(0, 1, 0) | turn(3)\ntape \"turns 0;swaps 1;looks 0;\"\ntext()",
            "force(1) | likely(0) = NONE | likely(2) = 0");
        check("WAYS 21 and c, swaps of c, not of the next one", "table(12, 4) | heap(0, 1, 0)",
            "turn(1)\ntape \"turns 0;swaps 5+card;looks 0;\"\ntext() | force(1) | likely(1) = 5");
        check("WAYS, of weight above 0", "table(2, 2) | heap(0, 1, 0) | turn(1)\ntape \"turns 0-1;swaps 0;looks 0;\"\ntext()",
            "force(1) | likely(0) = NONE | likely(1) = 0 | likely(2) = 0 | right(0) = NO");
        check("WAYS, which, undone, leave ALL HOLDING", "table(3, 3) | heap(0, 1, 0) | heap(0, 4, 0) | turn(5)",
            "likely(0) = NONE | likely(2) = 0 | turn(4) | likely(0) = 1 | likely(2) = 15");
        check("WAYS, turns as all lies now, not as in thought", "heap(0, 1, 0) | heap(0, 1, 0)",
            "turn(1)\ntape \"turns fails*10+back;swaps 0;looks 0;\"\ntext() | force(1) | likely(0) = 1 | likely(1) = 21",
            "likely(2) = 21");
        check("WAYS, swaps as all lies now, not as in thought", "heap(0, 1, 0) | heap(0, 1, 0)",
            "turn(1)\ntape \"turns 0;swaps fails*10+back;looks 0;\"\ntext() | force(1) | likely(0) = 21 | likely(1) = 21",
            "likely(2) = 21");
        check("looks as all lies now, not as in thought", "heap(0, 1, 0) | heap(0, 1, 0)",
            "turn(1)\ntape \"turns 0;swaps 0;looks fails*10+back;\"\ntext() | force(1) | cheapest(0) = 0 | cheapest(1) = 21");
        check("WAYS, of all weights the most", "table(12, 4) | turn(1365)\ntape \"turns 99;swaps 99;looks 0;\"\ntext()",
            "force(1) | likely(0) = 0 | likely(2) = 2377");
    }

    private static void likeliest() {
        check("THE LIKELIEST, nothing was done weighs more than 99", "tape \"turns 99;swaps 99;looks 0;\"\ntext() | force(1)",
            "turn(5) | likely(0) = 0 | likely(1) = 100");
        check("THE LIKELIEST, of like ones the first: of turns", "heap(0, 12, 0) | turn(4) | likely(0) = 3 | likely(2) = 25");
        check("THE LIKELIEST, of like ones the first: a turn ahead of a swap", "table(2, 2) | heap(0, 1, 0)",
            "turn(1)\ntape \"turns 4;swaps 4;looks 0;\"\ntext() | force(1) | likely(0) = 1 | likely(2) = 8");
        check("THE LIKELIEST, of like ones the first: of swaps", "table(3, 3) | heap(0, 2, 0)",
            "turn(2)\ntape \"turns 0;swaps 4;looks 0;\"\ntext() | force(1) | likely(0) = 21 | likely(2) = 8");
        check("THE LIKELIEST, one more is enough", "table(3, 3) | heap(0, 2, 0)",
            "turn(2)\ntape \"turns 4;swaps 4+card;looks 0;\"\ntext() | force(1) | likely(0) = 22 | likely(1) = 5",
            "likely(2) = 13");
    }

    private static void seeds() {
        check("SEED, 0 .. 99999", "rich\n evening(-1, 0) ! BAD | evening(100000, 0) ! BAD | evening(MIN, 0) ! BAD",
            "evening(MAX, 0) ! BAD",
            "evening(0, 0) ? 4 | evening(99999, 0) ? " + 4827100000L % 2147483647L % 9);
        check("LOT, (SEED and 1) times 48271 modulo 2147483647", "table(11, 3)",
            "evening(44487, 0) = " + 44488L * 48271 % 11 + " | evening(44488, 0) = " + (44489L * 48271 - 2147483647L) % 11,
            "evening(88976, 0) = " + (88977L * 48271 - 2 * 2147483647L) % 11 + " | evening(88975, 0) = "
            + (88976L * 48271 - 2147483647L) % 11);
        check("LOT, what is left by how many CARDS: of one it is 0", "table(1, 1) | evening(0, 0) = 0 | evening(7, 0) = 0",
            "evening(99999, 0) = 0");
        check("LOT, what is left by how many CARDS: of twelve", "table(12, 1) | evening(0, 0) = 7 | evening(1, 0) = 2",
            "evening(2, 0) = 9 | evening(3, 0) = 4 | evening(4, 0) = 11");
    }

    private static void found() {
        // SEED 7 tells card 5 of nine
        check("IT IS FOUND, the only one", "heap(0, 32, 0) | evening(7, 0) = 5 | evening(7, 1) ? 1");
        check("IT IS FOUND, not if another one would do", "heap(0, 33, 0) | evening(7, 1) = 0");
        check("IT IS FOUND, not if no HEAP tells", "evening(7, 1) = 0");
        check("IT IS FOUND, of one CARD without HEAPS", "table(1, 1) | evening(7, 1) = 1");
        check("IT IS FOUND, not if ALL don't HOLD, it being turned back", "heap(0, 32, 0) | heap(0, 1, 0) | turn(1)",
            "evening(7, 1) = 0");
        check("IT IS FOUND, from its BACK, too", "heap(5, 288, 3) | told(0, 3) = 32 | turn(32) | signs(2) = 0",
            "evening(7, 1) ? 1");
        check("IT IS FOUND, from its BACK: SUM by 6", "heap(4, 63, 4) | turn(32) | signs(2) = 0 | evening(7, 1) = 0", "drop()",
            "heap(4, 33, 4) | turn(1) | signs(2) = 1 | evening(7, 1) = 0");
    }

    private static void anImage() {
        check("AN IMAGE keeps CARDS, WIDE, BACKS, how many HEAPS there are, THE LAW",
            "rich\n table(12, 1) | turn(4095) | back() = 6 | count(0) = 9 | count(1) = 4 | count(2) = 6 | count(3) = 3",
            "count(4) = 2 | count(5) = 1 | count(6) = 11");
        check("AN IMAGE keeps no TEXTS, no TAPE, no SHEETS", "rich\n tape \"aps 1;looks 2;\"\ntext() = 2 | sheet(0, -1, 0)",
            "back() = 6 | count(4) = 3 | count(6) = 0 | cell(0, 0, 0) = -11");
        check("AN IMAGE, none at first", "back() ! STATE");
    }

    private static void sheets() {
        for (int s = 0; s < 4; s++) {
            check("SHEETS 0 .. 3, missing at first", "cell(" + s + ", 0, 0) ! -11 | judge(" + s + ") ! -11 | sheet(" + s
                + ", 0, 1) = 1 | cell(" + s + ", 0, 0) = 1");
        }
        check("SHEETS 0 .. 3", "rich\n sheet(-1, 0, 1) ! BAD | sheet(4, 0, 1) ! BAD | sheet(MIN, 0, 1) ! BAD",
            "sheet(MAX, 0, 1) ! BAD");
        check("SHEETS, of sort 0, 1, 2", "rich\n sheet(0, 3, 1) ! BAD | sheet(0, -2, 1) ! BAD | sheet(0, MIN, 1) ! BAD",
            "sheet(0, MAX, 1) ! BAD");
        for (int sort = 0; sort < 3; sort++) {
            check("SHEETS, 40 at most", "rich\n sheet(3, " + sort + ", 41) ! BAD | sheet(3, " + sort + ", MAX) ! BAD | sheet(3, "
                + sort + ", 40) = 1 | cell(3, 39, 1) = 1 | cell(3, 40, 1) ! -12");
            check("SHEETS, empty is not missing", "sheet(3, " + sort + ", 0) = 1 | cell(3, 0, 0) ! -12 | judge(3) = NONE");
        }
    }
}
