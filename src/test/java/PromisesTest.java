
/** For each promise what it says, its edges, its refusals and their order. */
public final class PromisesTest {
    private static final int NONE = -1, BAD = -2, STATE = -3, FULL = -4;
    private static final long NO = OneTurned.NO;
    private static int promise = 0;

    public static void main(String[] args) {
        theTable();
        theTape();
        theTexts();
        theFaults();
        theLaw();
        theHeaps();
        theSigns();
        whatCantBeSeen();
        oneCoin();
        changedAbout();
        cutAndMoved();
        whatIsLikeliest();
        liesAndIdlers();
        toldSigns();
        evenings();
        images();
        sheets();
        theHost();
        Due.end();
    }

    private static void due(String call, long got, long want) {
        Due.due("promise " + promise + ": " + call, got, want);
    }

    private static OneTurned at(int n, int width, int backs) {
        OneTurned x = new OneTurned();
        due("table(" + n + ", " + width + ")", x.table(n, width), 9);
        due("turn(" + backs + ")", x.turn(backs), backs);
        return x;
    }

    /** Nine cards, three wide, a heap for each row and column. */
    private static OneTurned square(int backs) {
        OneTurned x = at(9, 3, backs);
        for (int i = 0; i < 3; i++) {
            due("heap(1, 0, " + i + ")", x.heap(1, 0, i), i);
        }
        for (int i = 0; i < 3; i++) {
            due("heap(3, 0, " + i + ")", x.heap(3, 0, i), 3 + i);
        }
        return x;
    }

    /** Eight cards, heaps for three figures and one of all: what tells one turned of eight. */
    private static OneTurned figures(int backs) {
        OneTurned x = at(8, 4, backs);
        for (int i = 0; i < 3; i++) {
            due("heap(2, 0, " + i + ")", x.heap(2, 0, i), i);
        }
        due("heap(0, 255, 0)", x.heap(0, 255, 0), 3);
        return x;
    }

    private static int feed(OneTurned x, String text) {
        int answer = x.count(6);
        for (int i = 0; i < text.length(); i++) {
            answer = x.feed(1, text.charAt(i), 0, 0, 0, 0);
        }
        return answer;
    }

    private static void force(OneTurned x, String text) {
        feed(x, text);
        int number = x.text();
        Due.holds("a text: " + text, number > 0);
        x.force(number);
    }

    private static void theTable() {
        promise = 1;
        OneTurned x = new OneTurned();
        int[] first = {9, 3, 0, 0, 1, 0, 0};
        for (int what = 0; what < first.length; what++) {
            due("count(" + what + ")", x.count(what), first[what]);
        }
        due("back()", x.back(), STATE);
        for (int s = 0; s < 4; s++) {
            due("cell(" + s + ", 0, 0)", x.cell(s, 0, 0), -11);
        }
        for (int c = 0; c < 9; c++) {
            due("asks(0, " + c + ")", x.asks(0, c), 10);
            due("asks(1, " + c + ")", x.asks(1, c), 5);
            due("asks(2, " + c + ")", x.asks(2, c), 10);
        }

        promise = 2;
        due("table(12, 1)", x.table(12, 1), 9);
        due("table(1, 12)", x.table(1, 12), 12);
        due("count(0)", x.count(0), 1);
        due("count(1)", x.count(1), 12);
        int[][] wrong = {{0, 3}, {13, 3}, {9, 0}, {9, 13}, {-1, 3}, {9, -1}, {Integer.MIN_VALUE, 1}, {1, Integer.MAX_VALUE}};
        for (int[] w : wrong) {
            due("table(" + w[0] + ", " + w[1] + ")", x.table(w[0], w[1]), BAD);
        }
        due("count(0)", x.count(0), 1);
        due("count(1)", x.count(1), 12);
        x = at(8, 2, 255);
        due("heap(0, 3, 0)", x.heap(0, 3, 0), 0);
        due("heap(1, 0, 1)", x.heap(1, 0, 1), 1);
        due("told(1, 3)", x.told(1, 3), 12);
        due("table(12, 4)", x.table(12, 4), 8);
        due("count(2), none shows its back", x.count(2), 0);
        due("count(3), heaps stay", x.count(3), 2);
        due("told(1, 3), by the new width", x.told(1, 3), 240);

        promise = 3;
        x = new OneTurned();
        due("turn(5)", x.turn(5), 5);
        due("turn(1)", x.turn(1), 4);
        due("turn(0)", x.turn(0), 4);
        due("turn(511)", x.turn(511), 507);
        due("turn(512)", x.turn(512), BAD);
        due("turn(-1)", x.turn(-1), BAD);
        due("count(2)", x.count(2), 507);

        promise = 4;
        x = at(9, 3, 1);
        due("swap(0, 8)", x.swap(0, 8), 1);
        due("count(2)", x.count(2), 256);
        due("swap(8, 3)", x.swap(8, 3), 1);
        due("count(2)", x.count(2), 8);
        due("swap(0, 1)", x.swap(0, 1), 0);
        due("count(2)", x.count(2), 8);
        int[][] noTwo = {{3, 3}, {-1, 0}, {0, -1}, {9, 0}, {0, 9}, {Integer.MIN_VALUE, 3}};
        for (int[] w : noTwo) {
            due("swap(" + w[0] + ", " + w[1] + ")", x.swap(w[0], w[1]), -5);
        }
        due("count(2)", x.count(2), 8);

        promise = 5;
        x = at(7, 5, 66);
        x.heap(0, 0, 0);
        feed(x, "turns 1;swaps 1;looks 1;");
        x.text();
        x.force(1);
        feed(x, "abc");
        int[] all = {7, 5, 66, 1, 2, 1, 3};
        for (int what = 0; what < all.length; what++) {
            due("count(" + what + ")", x.count(what), all[what]);
        }
        due("count(-1)", x.count(-1), BAD);
        due("count(7)", x.count(7), BAD);
    }

    private static void theTape() {
        promise = 6;
        OneTurned x = new OneTurned();
        due("feed(5, ..)", x.feed(5, 0, 255, 0, 255, 0), 5);
        due("feed(1, ..)", x.feed(1, 0, 0, 0, 0, 0), 6);
        due("feed(0, ..)", x.feed(0, 0, 0, 0, 0, 0), BAD);
        due("feed(6, ..)", x.feed(6, 0, 0, 0, 0, 0), BAD);
        for (int i = 0; i < 5; i++) {
            int[] low = {1, 1, 1, 1, 1};
            int[] high = {1, 1, 1, 1, 1};
            low[i] = -1;
            high[i] = 256;
            due("feed, byte " + i + " -1", x.feed(1, low[0], low[1], low[2], low[3], low[4]), BAD);
            due("feed, byte " + i + " 256", x.feed(5, high[0], high[1], high[2], high[3], high[4]), BAD);
        }
        due("count(6)", x.count(6), 6);
        for (int i = 0; i < 30; i++) {
            due("feed(5, ..)", x.feed(5, 1, 2, 3, 4, 5), 11 + 5 * i);
        }
        due("feed(3, ..) at 156", x.feed(3, 1, 1, 1, 1, 1), 159);
        due("feed(2, ..) at 159", x.feed(2, 1, 1, 1, 1, 1), FULL);
        due("feed(5, ..) at 159", x.feed(5, 1, 1, 1, 1, 1), FULL);
        due("count(6)", x.count(6), 159);
        due("feed(1, ..) at 159", x.feed(1, 1, 1, 1, 1, 1), 160);
        due("feed(1, ..) at 160", x.feed(1, 1, 1, 1, 1, 1), FULL);
        due("feed(1, 256, ..) at 160, BAD ahead of FULL", x.feed(1, 256, 0, 0, 0, 0), BAD);
        due("feed(6, ..) at 160, BAD ahead of FULL", x.feed(6, 0, 0, 0, 0, 0), BAD);
        due("text(), what the bytes were", x.text(), -100);

        x = new OneTurned();
        String text = "turns 1 ; swaps 23 ; looks card ;   ";
        for (int i = 0; i < text.length(); ) {
            int n = 1 + i % 5;
            n = Math.min(n, text.length() - i);
            int[] five = {'!', '!', '!', '!', '!'};
            for (int k = 0; k < n; k++) {
                five[k] = text.charAt(i + k);
            }
            i += n;
            due("feed(" + n + ", ..), bytes behind the n do not come",
                x.feed(n, five[0], five[1], five[2], five[3], five[4]), i);
        }
        due("text()", x.text(), 1);
        due("force(1)", x.force(1), 0);
        due("asks(1, 0)", x.asks(1, 0), 23);
        due("asks(2, 7)", x.asks(2, 7), 7);
    }

    private static void theTexts() {
        promise = 7;
        OneTurned x = new OneTurned();
        for (int t = 1; t < 6; t++) {
            feed(x, "turns " + t + " ; swaps 1 ; looks 1 ;");
            due("text()", x.text(), t);
            due("count(4)", x.count(4), t + 1);
            due("count(6)", x.count(6), 0);
            feed(x, "turns ;");
            due("text(), with a fault" + t, x.text(), t < 5 ? -106 : FULL);
            due("count(6)", x.count(6), t < 5 ? 0 : 7);
        }
        due("text(), FULL ahead of the fault", x.text(), FULL);
        due("count(6), the tape stays", x.count(6), 7);
        due("count(4)", x.count(4), 6);
        due("count(5), the law stays", x.count(5), 0);

        String[] fine = {
            "turns 10 ; swaps 5 ; looks 1 + many ;", "turns1;swaps2;looks3;", "\n turns\n1\n;swaps 1;looks 1; \n",
            "turns 1and 2or 3;swaps 9999;looks 0000;", "turns (((((1)))));swaps (1)+(2)*(3);looks ((1)<(2));",
            "turns not not not not not 1;swaps -----1;looks not(not(-1));",
            "turns (((((1)))))+(((((1)))));swaps not not not not not 1 and not not not not not 1;looks 1;",
            "turns ((((not 1 and -2))));swaps ((((-1+-1))));looks ((((-1*(1)))));",
            "turns ((((not 1 or -2))));swaps ((((-1<-1))));looks not 1<2 and not(not 3=4);",
            "turns card;swaps row+column;looks back*many-fails;", "turns 1 - - 1;swaps 1--1;looks 1*-1;",
            "turns ((((not 1)+1)*(2))) ; swaps 1 < (2 < 3) ; looks (not 1) < (not 2) ;",
        };
        for (String text : fine) {
            x = new OneTurned();
            feed(x, text);
            due("text() of " + text, x.text(), 1);
        }
        x = new OneTurned();
        String longest = "turns 1;swaps 1;looks 1;" + " ".repeat(160 - 24);
        due("feed", feed(x, longest), 160);
        due("text() of 160 bytes", x.text(), 1);
        x = new OneTurned();
        String sums = "turns 1;swaps 1;looks 1" + "+1".repeat(68) + ";";
        due("feed", feed(x, sums), 160);
        due("text() of a long sum", x.text(), 1);
        due("force(1)", x.force(1), 0);
        due("asks(2, 0)", x.asks(2, 0), 69);
    }

    /** In each text @ stands ahead of the fault; it does not come on the tape. */
    private static void theFaults() {
        promise = 7;
        String[] faults = {
            "@", "   @", "@1", "@swaps 1 ;", "@;", "turns @;", "turns@", "turns @turns 1 ;", "turns 1 @swaps 1 ;", "turns 1@",
            "turns 1 ; @looks 1 ;", "turns 1 ; @", "turns 1 ; swaps 2 ; @turns 3 ;", "turns 1 ; swaps 2 ; looks 3@",
            "turns 1 ; swaps 2 ; looks 3  \n@", "turns 1;swaps 2;looks 3;@;", "turns 1;swaps 2;looks 3; @turns 1;",
            "turns 1;swaps 2;looks 3;\n@x", "turns 1;swaps 2;looks 3; @!", "turns @12345 ;", "turns @00000 ;", "turns 1 + @99999 ;",
            "turns 1 < 2 @< 3 ;", "turns 1 = 2 @= 3 ;", "turns 1 < 2 @= 3 ;", "turns 1 + @not 2 ;", "turns 1 < @not 2 ;",
            "turns - @not 1 ;", "turns 1 * @not 1 ;", "turns not @;", "turns not @and 1 ;", "turns ( 1 @;", "turns 1 @) ;",
            "turns ( @) ;", "turns ( 1 ) @) ;", "turns @or 1 ;", "turns 1 or @or 1 ;",
            "turns 1 and @;", "turns 1 * @* 2 ;", "turns @* 2 ;", "turns @+ 2 ;", "turns @< 2 ;", "turns @= 2 ;",
            "turns 1 @card ;", "turns 1 @2 ;", "turns 1234 @5 ;", "turns @cards ;", "turns @car ;", "turns @Card ;",
            "turns card@A ;", "turns @turn ;", "turns @cardz ;", "turns @z ;", "turns @acard ;", "turns 1 + @manya * 2 ;", "@turnsx 1 ;", "turns @notcard ;", "turns @\t1 ;", "turns 1 @/ 2 ;", "turns 1 @\r;",
            "turns @\u0000 ;", "turns @\u00ff ;", "turns @` ;", "turns @{ ;", "turns @: ;", "turns @, ;", "turns @> ;", "turns @' ;",
            "turns 1 @( 2 ) ;", "turns 1 @not 2 ;", "turns card @card ;", "turns 1 - @;", "turns ( 1 ) @1 ;",
            "turns 1 ; swaps ( ( 2 ) @; looks 3 ;", "turns 1 ; swaps 2 @looks 3 ;", "turns 1 ; swaps 2 ; looks 3 @) ;",
            "turns (((((@(1)))))) ;", "turns not not not not not @not 1 ;", "turns -----@-1 ;", "turns (((((@-1))))) ;",
            "turns (((((@not 1))))) ;", "turns ((((-@(1))))) ;", "turns ((((not 1 < @-2)))) ;", "turns ((((not 1 + @(2))))) ;",
            "turns ((((not @not 1)))) ;", "turns not not not not - @- 1 ;", "turns - - - - ( @- 1 ) ;", "turns not ( not ( not @( 1 ;",
            "turns ((((1)+(2 and (3 or @(4 ;", "turns not not not not not 1 + @( 2 ) ;", "turns 1 ; swaps (((((@(",
            "turns 1 ; swaps 1 ; looks ----- 1 * -----@- 1 ;",
        };
        for (String marked : faults) {
            int place = marked.indexOf('@');
            OneTurned x = new OneTurned();
            feed(x, marked.replace("@", ""));
            due("text() of " + marked, x.text(), -100 - place);
            due("count(6), the tape is empty", x.count(6), 0);
            due("count(4)", x.count(4), 1);
        }
    }

    private static int said(String expression, int card) {
        OneTurned x = at(12, 5, 128);
        x.heap(0, 128, 0);
        x.heap(0, 1, 0);
        x.heap(4, 128, 9);
        force(x, "turns 0;swaps 0;looks " + expression + ";");
        return x.asks(2, card);
    }

    private static void theLaw() {
        promise = 8;
        OneTurned x = new OneTurned();
        due("force(0)", x.force(0), 0);
        due("force(1)", x.force(1), BAD);
        due("force(-1)", x.force(-1), BAD);
        force(x, "turns 1;swaps 2;looks 3;");
        due("count(5)", x.count(5), 1);
        due("force(0)", x.force(0), 1);
        due("asks(1, 0)", x.asks(1, 0), 5);
        due("force(1)", x.force(1), 0);
        due("asks(1, 0)", x.asks(1, 0), 2);
        due("force(2)", x.force(2), BAD);
        due("count(5)", x.count(5), 1);

        for (int t = 2; t < 6; t++) {
            force(x, "turns 10*" + t + ";swaps 2;looks 3;");
            due("asks(0, 0), text " + t, x.asks(0, 0), 10 * t);
        }
        due("force(6)", x.force(6), BAD);
        due("force(1)", x.force(1), 5);

        promise = 9;
        due("asks(0, 8)", x.asks(0, 8), 1);
        due("asks(1, 8)", x.asks(1, 8), 2);
        due("asks(2, 8)", x.asks(2, 8), 3);
        due("asks(0, 9)", x.asks(0, 9), -5);
        due("asks(0, -1)", x.asks(0, -1), -5);
        due("asks(3, 0)", x.asks(3, 0), -7);
        due("asks(-1, 0)", x.asks(-1, 0), -7);
        due("asks(3, 9), -5 ahead of -7", x.asks(3, 9), -5);
        Object[][] expressions = {
            {"0", 0}, {"7", 7}, {"0099", 99}, {"100", 99}, {"9999", 99}, {"-5", 0}, {"1+2*3", 7}, {"(1+2)*3", 9}, {"10-3-2", 5},
            {"10-(3-2)", 9}, {"2*3-1", 5}, {"-3+5", 2}, {"-(2-7)", 5}, {"--4", 4}, {"-2*-3", 6}, {"3--2", 5}, {"2<3", 1},
            {"3<3", 0}, {"4<3", 0}, {"3=3", 1}, {"3=4", 0}, {"-1<0", 1}, {"1+1=2", 1}, {"1=1+1", 0}, {"1+(1=2)", 1}, {"not 0", 1},
            {"not 5", 0}, {"not not 7", 1}, {"not 1<2", 0}, {"not 2<1", 1}, {"not 1+(-1)", 1}, {"1 or 0 and 0", 1},
            {"(1 or 0)and 0", 0}, {"0 and 0 or 1", 1}, {"5 or 0", 1}, {"0 or 7", 1}, {"0 or 0", 0}, {"3 and 2", 1}, {"3 and 0", 0},
            {"0 and 3", 0}, {"-1 and -2", 1}, {"not 0 and 0", 0}, {"not(0 and 0)", 1}, {"not 1 or 1", 1}, {"50+(1 or 0)*2", 52},
            {"9999*9999*9999<0", 1}, {"9999*9999*9999", 0}, {"2-1*2", 0}, {"5*4 or 0", 1},
            {"card", 7}, {"row", 1}, {"column", 2}, {"back", 1}, {"many", 12}, {"fails", 2}, {"card*10+row+column", 73},
            {"0-9999*9999*43*5=-9999*9999*215", 1}, {"9999*9999*21+9999*9999<0", 1}, {"1 and 1 and 0", 0}, {"0 or 0 or 3", 1},
            {"1<2 and 2<3", 1}, {"1=1 and 0=0", 1}, {"9-4+3", 8}, {"2*3*4", 24}, {"8-2*3+1", 3},
        };
        for (Object[] e : expressions) {
            due("what looks " + e[0] + " says of card 7", said((String) e[0], 7), (Integer) e[1]);
        }
        due("back of a card that shows its face", said("back", 6), 0);
        due("row of card 11", said("row", 11), 2);
        due("column of card 11", said("column", 11), 1);
        x = at(9, 3, 0);
        x.heap(0, 1, 0);
        force(x, "turns fails;swaps many;looks 50+back;");
        due("fails, before", x.asks(0, 3), 0);
        x.turn(1);
        due("fails, now", x.asks(0, 3), 1);
        due("back, now", x.asks(2, 0), 51);
        due("back, now", x.asks(2, 1), 50);
        x.table(4, 2);
        due("many, now", x.asks(1, 3), 4);
    }

    private static void theHeaps() {
        promise = 10;
        OneTurned x = new OneTurned();
        int[][] wrong = {{-1, 0, 0}, {6, 0, 0}, {0, -1, 0}, {0, 4096, 0}, {0, 0, -1}, {0, 0, 10}};
        for (int[] w : wrong) {
            due("heap(" + w[0] + ", " + w[1] + ", " + w[2] + ")", x.heap(w[0], w[1], w[2]), BAD);
        }
        for (int h = 0; h < 7; h++) {
            due("heap", x.heap(h % 6, 4095, 9), h);
            due("count(3)", x.count(3), h + 1);
        }
        due("heap, full", x.heap(0, 0, 0), FULL);
        due("heap, BAD ahead of FULL", x.heap(6, 0, 0), BAD);
        due("heap, BAD ahead of FULL", x.heap(0, 4096, 0), BAD);
        due("count(3)", x.count(3), 7);

        promise = 11;
        for (int h = 6; h >= 0; h--) {
            due("drop()", x.drop(), h);
            due("told(" + h + ", 0)", x.told(h, 0), -5);
        }
        due("drop()", x.drop(), STATE);
        x.heap(0, 1, 0);
        x.heap(1, 2, 3);
        due("drop(), the latest", x.drop(), 1);
        due("told(0, 1)", x.told(0, 1), 1);
        x.image();
        x.heap(0, 2, 0);
        due("drop(), not of the image", x.drop(), 1);
        due("back(), the image is there", x.back(), 0);
        due("drop(), of the image", x.drop(), 0);
        due("back(), the image is not there", x.back(), STATE);
        x.heap(0, 1, 0);
        due("back(), nor is it by another heap", x.back(), STATE);
        x.image();
        due("back()", x.back(), 0);

        promise = 12;
        // kind, members, more, cards in it (twelve, five wide), its sign by all backs, by none
        int[][] heaps = {
            {0, 2053, 4, 2053, 1, 0}, {1, 2053, 2, 3072, 0, 0}, {1, 0, 0, 31, 1, 0}, {1, 4095, 3, 0, 0, 0},
            {2, 0, 1, 3276, 0, 0}, {2, 0, 5, 3276, 0, 0}, {2, 0, 3, 3840, 0, 0}, {2, 0, 7, 3840, 0, 0}, {2, 0, 0, 2730, 0, 0},
            {2, 0, 9, 3276, 0, 0}, {2, 0, 2, 240, 0, 0}, {3, 0, 1, 2114, 1, 0}, {3, 0, 4, 528, 0, 0}, {3, 1, 5, 0, 0, 0},
            {4, 2053, 9, 2053, 5, 0}, {4, 2053, 0, 2053, 0, 0}, {4, 2053, 1, 2053, 1, 0}, {4, 4095, 9, 4095, 1, 0},
            {4, 1, 9, 1, 1, 0}, {4, 1024, 9, 1024, 0, 0}, {4, 512, 9, 512, 10, 0}, {5, 15, 1, 3267, 1, 1}, {5, 0, 1, 3276, 1, 1},
            {5, 1, 5, 3277, 0, 1}, {5, 4095, 0, 1365, 1, 1},
        };
        for (int[] w : heaps) {
            x = at(12, 5, 4095);
            due("heap", x.heap(w[0], w[1], w[2]), 0);
            String heap = " of " + java.util.Arrays.toString(w);
            for (int what = 0; what < 5; what++) {
                due("told(0, " + what + ")" + heap, x.told(0, what), w[what]);
            }
            x.turn(4095);
            due("told(0, 4)" + heap, x.told(0, 4), w[5]);
        }
        due("told(0, 5)", x.told(0, 5), -7);
        due("told(0, -1)", x.told(0, -1), -7);
        due("told(1, 0)", x.told(1, 0), -5);
        due("told(-1, 0)", x.told(-1, 0), -5);
        due("told(1, 5), -5 ahead of -7", x.told(1, 5), -5);
        x = new OneTurned();
        x.heap(0, 4095, 0);
        due("told(0, 1), members may be no cards", x.told(0, 1), 4095);
        due("told(0, 3), only cards are in it", x.told(0, 3), 511);
        x.table(3, 3);
        due("told(0, 3)", x.told(0, 3), 7);
    }

    private static void theSigns() {
        promise = 13;
        OneTurned x = at(12, 4, 0b000000010110);
        x.heap(4, 4095, 9);
        x.heap(0, 2, 0);
        x.heap(5, 0, 0);
        x.heap(0, 1, 0);
        // 2 + 3 + 5 weigh 10 by 11; card 1 is a back; one odd back, so 1 less 1; card 0 a face
        due("signs(0)", x.signs(0), 10 + 16);
        due("signs(1)", x.signs(1), 3);
        due("signs(2)", x.signs(2), 2);
        due("signs(3)", x.signs(3), BAD);
        due("signs(-1)", x.signs(-1), BAD);
        x.heap(0, 0, 0);
        x.heap(0, 0, 0);
        x.heap(4, 2048, 9);
        x.turn(2048);
        due("signs(0), the highest", x.signs(0), (22 % 11) + 16 + 256 + (1 << 24));

        promise = 14;
        x = square(16);
        due("look(0)", x.look(0), 1 << 4 | 1 << 16);
        due("look(16)", x.look(16), 0);
        due("look(1)", x.look(1), 1 | 1 << 4 | 1 << 12 | 1 << 16);
        due("look(511)", x.look(511), 0x111111 ^ (1 << 4 | 1 << 16));
        due("look(512)", x.look(512), BAD);
        due("look(-1)", x.look(-1), BAD);
        due("count(2), nothing was turned", x.count(2), 16);

        promise = 15;
        due("one()", x.one(), 16);
        x.turn(1);
        due("one()", x.one(), 0);
        due("one(), no heaps", at(5, 2, 3).one(), 31);
        x = at(9, 3, 2);
        x.heap(1, 0, 0);
        due("one()", x.one(), 7);
        x.heap(3, 0, 1);
        due("one()", x.one(), 2);

        promise = 16;
        x = square(17);
        due("two(0)", x.two(0), 2);
        due("two(1)", x.two(1), 4);
        x.turn(1 | 2);
        // 1 and 4 are backs: rows 0 and 1 are uneven, in any one column
        due("two(0)", x.two(0), 3);
        due("two(1)", x.two(1), 3);
        x.turn(256);
        due("two(0), three rows are uneven", x.two(0), 0);
        due("two(1), three rows are uneven", x.two(1), NONE);
        x = at(12, 4, 1 << 11);
        x.heap(0, 3072, 0);
        x.heap(0, 512, 0);
        // one of 10, 11 is to be turned, 9 is not: with any of 0 .. 8
        due("two(0)", x.two(0), 18);
        due("two(1)", x.two(1), 10);
        x = at(12, 4, 3072);
        x.heap(0, 1024, 0);
        x.heap(0, 2048, 0);
        due("two(0)", x.two(0), 1);
        due("two(1)", x.two(1), 1011);
        due("two(2)", x.two(2), BAD);
        due("two(-1)", x.two(-1), BAD);
    }

    private static void whatCantBeSeen() {
        promise = 17;
        OneTurned x = figures(0);
        int[] counts = {1, 0, 0, 0, 14, 0, 0, 0, 1, 0, 0, 0, 0};
        for (int k = 0; k < counts.length; k++) {
            due("counts(" + k + ")", x.counts(k), counts[k]);
        }
        due("counts(13)", x.counts(13), BAD);
        due("counts(-1)", x.counts(-1), BAD);
        x = at(12, 4, 0);
        due("counts(12), no heaps", x.counts(12), 1);
        due("counts(6), no heaps", x.counts(6), 924);
        // weights 1, 2, 3 by 11: a back taken away weighs less
        x = at(3, 3, 4);
        x.heap(4, 7, 9);
        due("counts(3): 1 + 2 for 3", x.counts(3), 1);
        due("counts(2)", x.counts(2), 0);
        x.turn(4);
        due("counts(3): by faces 6 come", x.counts(3), 0);

        promise = 18;
        due("unseen(0)", x.unseen(0), NONE);
        due("unseen(1)", x.unseen(1), NONE);
        x.turn(4);
        due("unseen(0)", x.unseen(0), 3);
        due("unseen(1)", x.unseen(1), 7);
        x = figures(3);
        due("unseen(0)", x.unseen(0), 4);
        due("unseen(1)", x.unseen(1), 15);
        x = at(12, 4, 0);
        x.heap(0, 7, 0);
        x.heap(0, 5, 0);
        // 0 with 2 is the least of sets, but 3 alone has fewer
        due("unseen(0)", x.unseen(0), 1);
        due("unseen(1)", x.unseen(1), 8);
        due("unseen(2)", x.unseen(2), BAD);
        due("unseen(-1)", x.unseen(-1), BAD);

        promise = 19;
        x = figures(5);
        due("apart(0)", x.apart(0), 8);
        due("apart(1)", x.apart(1), NONE);
        x = at(12, 4, 0);
        x.heap(1, 0, 0);
        x.heap(1, 0, 2);
        due("apart(0)", x.apart(0), 3);
        due("apart(1)", x.apart(1), 1);
        x = at(12, 4, 0);
        x.heap(0, 1, 0);
        x.heap(0, 2, 0);
        x.heap(0, 4 + 2048, 0);
        x.heap(0, 8 + 16, 0);
        due("apart(1), by the lesser first", x.apart(1), 211);
        due("apart(0)", x.apart(0), 5);
        due("apart(2)", x.apart(2), BAD);
        due("apart(-1)", x.apart(-1), BAD);
        x = at(3, 3, 1);
        x.heap(4, 7, 2);
        // 1 taken away, 2 come, 3 come: 0, 3, 0 by 4
        due("apart(0), with a back", x.apart(0), 2);
        due("apart(1), with a back", x.apart(1), 2);

        promise = 20;
        x = square(0);
        for (int k = 0; k < 4; k++) {
            due("reach(" + k + ")", x.reach(k), squareReach(k));
        }
        due("reach(1)", x.reach(1), 10);
        due("reach(3)", x.reach(3), 32);
        due("reach(4)", x.reach(4), BAD);
        due("reach(-1)", x.reach(-1), BAD);
        // six sums of two cards each, which tell all four ways of these: all sets are unlike
        x = at(12, 12, 0);
        int[][] sums = {{1, 10, 8}, {0, 2, 9}, {3, 4, 9}, {5, 6, 9}, {7, 8, 9}, {9, 11, 7}};
        for (int[] w : sums) {
            x.heap(4, 1 << w[0] | 1 << w[1], w[2]);
        }
        due("reach(0)", x.reach(0), 1);
        due("reach(1)", x.reach(1), 1 + 12);
        due("reach(2)", x.reach(2), 1 + 12 + 66);
        due("reach(3)", x.reach(3), 1 + 12 + 66 + 220);

        promise = 21;
        x = square(17);
        due("lay(511, 0)", x.lay(511, 0), 2);
        due("lay(511, 1), of 17 and 10 the least", x.lay(511, 1), 10);
        due("lay(17, 1)", x.lay(17, 1), 17);
        due("lay(1, 0)", x.lay(1, 0), NONE);
        due("lay(1, 1)", x.lay(1, 1), NONE);
        due("lay(0, 0)", x.lay(0, 0), NONE);
        due("lay(512, 0)", x.lay(512, 0), BAD);
        due("lay(-1, 0)", x.lay(-1, 0), BAD);
        due("lay(511, 2)", x.lay(511, 2), -7);
        due("lay(511, -1)", x.lay(511, -1), -7);
        due("lay(512, 2), BAD ahead of -7", x.lay(512, 2), BAD);
        due("count(2), nothing was turned", x.count(2), 17);
        x = at(12, 4, 1);
        x.heap(0, 1 + 8, 0);
        x.heap(0, 2 + 8, 0);
        x.heap(0, 4 + 8, 0);
        x.turn(6);
        due("lay(4095, 1), fewest ahead of least", x.lay(4095, 1), 8);
        due("lay(7, 1)", x.lay(7, 1), 7);

        promise = 22;
        due("even(4096)", x.even(4096), BAD);
        due("even(-1)", x.even(-1), BAD);
        due("even(3)", x.even(3), NONE);
        due("count(2), nothing was turned", x.count(2), 7);
        due("even(7)", x.even(7), 3);
        due("count(2)", x.count(2), 0);
        due("even(4095), all hold", x.even(4095), 0);
        due("count(2)", x.count(2), 0);
        x.turn(7);
        due("even(4095)", x.even(4095), 1);
        due("count(2)", x.count(2), 15);

        promise = 23;
        int[][] needs = {{0, 0}, {1, 2}, {2, 3}, {4, 3}, {5, 4}, {11, 4}, {12, 5}, {26, 5}, {27, 6}, {57, 6}, {58, 7}, {8178, 13},
            {8179, 14}, {9999, 14}, {10000, BAD}, {-1, BAD}, {Integer.MAX_VALUE, BAD}};
        for (int[] w : needs) {
            due("needs(" + w[0] + ")", new OneTurned().needs(w[0]), w[1]);
        }
    }

    /** Rows and columns that no more than k cards turn, counted by lists of them. */
    private static int squareReach(int k) {
        java.util.Set<String> found = new java.util.TreeSet<>();
        for (int set = 0; set < 512; set++) {
            if (Integer.bitCount(set) <= k) {
                int[] odd = new int[6];
                for (int c = 0; c < 9; c++) {
                    odd[c / 3] ^= set >> c & 1;
                    odd[3 + c % 3] ^= set >> c & 1;
                }
                found.add(java.util.Arrays.toString(odd));
            }
        }
        return found.size();
    }

    private static void oneCoin() {
        promise = 24;
        OneTurned x = new OneTurned();
        int[][] can = {{1, 1}, {2, 1}, {3, 0}, {4, 1}, {6, 0}, {8, 1}, {65536, 1}, {65537, 0}, {99999, 0}, {0, BAD}, {-1, BAD},
            {100000, BAD}, {131072, BAD}, {Integer.MIN_VALUE, BAD}};
        for (int[] w : can) {
            due("can(" + w[0] + ")", x.can(w[0]), w[1]);
        }

        for (int n = 1; n <= 12; n++) {
            boolean isTwo = n == 1 || n == 2 || n == 4 || n == 8;
            for (int backs = 0; backs < 1 << n; backs += n > 4 ? 37 : 1) {
                x = at(n, 3, backs);
                int numbers = 0;
                for (int c = 0; c < n; c++) {
                    numbers ^= (backs >> c & 1) * c;
                }
                promise = 25;
                due("reads()", x.reads(), isTwo ? numbers : STATE);
                promise = 26;
                for (int square = 0; square < n; square++) {
                    due("coin(" + square + ")", x.coin(square), isTwo ? numbers ^ square : STATE);
                }
                due("coin(-1), BAD ahead of STATE", x.coin(-1), BAD);
                due("coin(" + n + "), BAD ahead of STATE", x.coin(n), BAD);
                due("count(2), nothing was turned", x.count(2), backs);
            }
        }
        x = at(8, 4, 0b10110010);
        x.turn(1 << x.coin(6));
        promise = 26;
        due("reads(), the coin being turned", x.reads(), 6);
    }

    private static void changedAbout() {
        promise = 27;
        OneTurned x = at(9, 3, 0b000001001);
        x.heap(1, 0, 0);
        x.heap(1, 0, 1);
        // unlike: 0 1, 2 3, 3 4; of these 2 3 goes from row to row
        due("swaps(0)", x.swaps(0), 0b1001);
        due("swaps(1)", x.swaps(1), 0b0100);
        due("swaps(2)", x.swaps(2), 0b0100);
        due("swaps(3)", x.swaps(3), BAD);
        due("swaps(-1)", x.swaps(-1), BAD);
        due("count(2), nothing was changed about", x.count(2), 9);
        x = at(12, 4, 1 << 11);
        due("swaps(0), the last two", x.swaps(0), 1 << 10);
        due("swaps(2)", x.swaps(2), 1 << 10);
        due("swaps(0), one card", at(1, 1, 1).swaps(0), 0);

        promise = 28;
        x = square(16);
        due("swept(0, 0)", x.swept(0, 0), 0);
        due("swept(0, 1)", x.swept(0, 1), NONE);
        due("swept(0, 2)", x.swept(0, 2), 0);
        due("swept(1, 0)", x.swept(1, 0), 1);
        due("swept(1, 1)", x.swept(1, 1), 0);
        due("swept(1, 2), they lie otherwise", x.swept(1, 2), 0);
        x.turn(1 | 2 | 8);
        due("signs(2)", x.signs(2), 0);
        due("swept(1, 0)", x.swept(1, 0), 1);
        due("swept(1, 1), bits by their numbers", x.swept(1, 1), 24);
        due("swept(1, 2)", x.swept(1, 2), 1);
        due("swept(3, 0)", x.swept(3, 0), -5);
        due("swept(-1, 0)", x.swept(-1, 0), -5);
        due("swept(2147483647, 0)", x.swept(Integer.MAX_VALUE, 0), -5);
        due("swept(0, 3)", x.swept(0, 3), -7);
        due("swept(0, -1)", x.swept(0, -1), -7);
        due("swept(3, 3), -5 ahead of -7", x.swept(3, 3), -5);
        due("count(2), nothing was turned", x.count(2), 27);
        x = at(11, 4, 0);
        x.heap(0, 512, 0);
        due("swept(2, 0), a short row", x.swept(2, 0), 4);
        due("swept(2, 2), more than one", x.swept(2, 2), 0);
        x.heap(5, 0, 3);
        due("swept(2, 1), the least", x.swept(2, 1), 256);
        due("swept(3, 0)", x.swept(3, 0), -5);
        x.table(12, 12);
        due("swept(0, 0), one row", x.swept(0, 0), 1024);
        due("swept(1, 0)", x.swept(1, 0), -5);
    }

    private static void cutAndMoved() {
        promise = 29;
        OneTurned x = at(9, 3, 0b000000011);
        due("cut(1)", x.cut(1), 0b100000001);
        due("cut(8)", x.cut(8), 0b000000011);
        due("cut(0)", x.cut(0), 0b000000011);
        due("cut(3)", x.cut(3), 0b011000000);
        due("cut(9)", x.cut(9), BAD);
        due("cut(-1)", x.cut(-1), BAD);
        due("count(2)", x.count(2), 0b011000000);
        due("cut(0), one card", at(1, 1, 1).cut(0), 1);
        due("cut(1), one card", at(1, 1, 1).cut(1), BAD);

        promise = 30;
        x = at(6, 3, 0b010010);
        x.heap(1, 0, 0);
        // a cut by n shows 001001, 100100, 010010, ..: one back in each row
        due("cuts(0)", x.cuts(0), 0b111110);
        due("cuts(1)", x.cuts(1), 0);
        due("cuts(2)", x.cuts(2), 0b001000);
        x.drop();
        x.heap(0, 1, 0);
        due("cuts(0)", x.cuts(0), 0b101100);
        due("cuts(1)", x.cuts(1), 0b101100);
        x.turn(1);
        due("cuts(0), 010011", x.cuts(0), 0b010010);
        due("cuts(1)", x.cuts(1), 0b101100);
        due("cuts(2)", x.cuts(2), 0);
        due("cuts(3)", x.cuts(3), BAD);
        due("cuts(-1)", x.cuts(-1), BAD);
        due("count(2), nothing was cut", x.count(2), 0b010011);

        promise = 31;
        x = at(9, 3, 0b000010001);
        due("move(0, 8)", x.move(0, 8), 0b100001000);
        due("move(8, 0)", x.move(8, 0), 0b000010001);
        due("move(4, 1)", x.move(4, 1), 0b000000011);
        due("move(1, 1)", x.move(1, 1), 0b000000011);
        due("move(1, 4)", x.move(1, 4), 0b000010001);
        due("move(6, 2)", x.move(6, 2), 0b000100001);
        due("move(9, 0)", x.move(9, 0), -5);
        due("move(0, 9)", x.move(0, 9), -5);
        due("move(-1, 0)", x.move(-1, 0), -5);
        due("move(0, -1)", x.move(0, -1), -5);
        due("count(2)", x.count(2), 0b000100001);

        promise = 32;
        x = at(3, 3, 0b001);
        // 0 to 1: 010, 0 to 2: 100, 1 to 0: 010, 2 to 0: 010; 1 and 2 about: as it was
        due("moves(0), no heaps", x.moves(0), 0);
        due("moves(1), no heaps", x.moves(1), 4);
        x.heap(0, 4, 0);
        due("moves(0)", x.moves(0), 1);
        due("moves(1)", x.moves(1), 3);
        due("moves(2)", x.moves(2), BAD);
        due("moves(-1)", x.moves(-1), BAD);
        due("count(2), nothing was moved", x.count(2), 1);
    }

    private static void whatIsLikeliest() {
        promise = 33;
        OneTurned x = square(16);
        due("likely(0)", x.likely(0), 5);
        due("likely(1)", x.likely(1), 10);
        due("likely(2)", x.likely(2), 10);
        x = at(4, 2, 0b0001);
        x.heap(0, 1, 0);
        // 0 turned (10); 0 and 1 changed about (5)
        due("likely(0)", x.likely(0), 1);
        due("likely(2)", x.likely(2), 15);
        force(x, "turns 5;swaps 6;looks 0;");
        due("likely(0), changed about", x.likely(0), 21);
        due("likely(1)", x.likely(1), 6);
        due("likely(2)", x.likely(2), 11);
        promise = 34;
        due("right(0)", x.right(0), 6);
        due("right(1)", x.right(1), 11);
        promise = 33;
        force(x, "turns 6;swaps 6;looks 0;");
        due("likely(0), of like ones the first", x.likely(0), 1);
        promise = 34;
        due("right(0)", x.right(0), 1);
        due("right(1)", x.right(1), 2);
        promise = 33;
        force(x, "turns 0;swaps 0-1;looks 0;");
        due("likely(0), none above 0", x.likely(0), NONE);
        due("likely(1)", x.likely(1), 0);
        due("likely(2)", x.likely(2), 0);
        promise = 34;
        due("right(0)", x.right(0), NO);
        due("right(1)", x.right(1), NO);
        promise = 33;
        x.drop();
        due("likely(0), nothing was done", x.likely(0), 0);
        due("likely(1)", x.likely(1), 100);
        promise = 34;
        due("right(0)", x.right(0), 1);
        due("right(1)", x.right(1), 1);
        due("right(2)", x.right(2), NO);
        due("right(-1)", x.right(-1), NO);
        promise = 33;
        x = at(12, 4, 1 << 11);
        force(x, "turns card * 9;swaps card + back * 50;looks 0;");
        // turns 0, 9, .. 99; of neighbours only 10 and 11 are unlike, 10 shows its face
        due("likely(0)", x.likely(0), 0);
        due("likely(2)", x.likely(2), 100 + 9 * 66 + 10);
        x.heap(0, 2048, 0);
        due("likely(0)", x.likely(0), 12);
        due("likely(1)", x.likely(1), 99);
        due("likely(2)", x.likely(2), 109);
        x.heap(0, 1024, 0);
        x.turn(1024 | 2048);
        due("likely(0)", x.likely(0), 11);
        due("likely(1)", x.likely(1), 90);
        due("likely(2), 9 and 10 changed about, too", x.likely(2), 90 + 9);
        x.turn(1024 | 512);
        due("likely(2), 9 and 10 do not hold then", x.likely(2), 100 + 9 * 45 + 8);
        due("likely(3)", x.likely(3), BAD);
        due("likely(-1)", x.likely(-1), BAD);

        promise = 35;
        x = at(9, 3, 1);
        x.heap(1, 0, 0);
        force(x, "turns 1;swaps 1;looks 20 - 5 * (card = 1) - 5 * (card = 2) + 10 * back + fails;");
        due("cheapest(0), of 1 and 2 the first", x.cheapest(0), 1);
        due("cheapest(1)", x.cheapest(1), 31 + 16 + 16);
        due("cheapest(2)", x.cheapest(2), BAD);
        due("cheapest(-1)", x.cheapest(-1), BAD);
        x.heap(3, 0, 2);
        due("cheapest(0), of 0 and 1", x.cheapest(0), 1);
        due("cheapest(1), of 0 and 1", x.cheapest(1), 31 + 16);
        x.heap(0, 8, 0);
        x.turn(8);
        due("cheapest(0), none", x.cheapest(0), NONE);
        due("cheapest(1), none", x.cheapest(1), 0);
        x.turn(8);
        x.turn(5);
        due("cheapest(0)", x.cheapest(0), 2);
        due("cheapest(1)", x.cheapest(1), 15 + 10 + 2);
    }

    private static void liesAndIdlers() {
        promise = 36;
        OneTurned x = square(16);
        due("lies(), one turned", x.lies(), 63);
        x = square(17);
        due("lies(), two turned", x.lies(), 0);
        x = at(9, 3, 0);
        due("lies(), no heaps", x.lies(), 0);
        x.heap(5, 0, 0);
        x.heap(0, 0, 0);
        x.heap(5, 0, 1);
        // heaps 0 and 2 fail by no turn; one turn mends one or both
        due("lies()", x.lies(), 7);
        x.heap(0, 10, 0);
        x.heap(0, 4, 0);
        // now no card mends both: 3 and 7 do for 0 and 2, but 3 turns heap 3
        due("lies()", x.lies(), 31);
        x.table(3, 3);
        // without 3 and 7: turning 1 mends 0 and breaks 3, turning 2 mends 2 and breaks 4
        due("lies()", x.lies(), 0);

        promise = 37;
        x = at(9, 3, 0);
        due("idle(), no heaps", x.idle(), 0);
        x.heap(0, 3, 0);
        due("idle(), alone", x.idle(), 0);
        x.heap(0, 6, 0);
        due("idle(), two", x.idle(), 0);
        x.heap(0, 5, 0);
        due("idle(), each by the two others", x.idle(), 7);
        x.heap(0, 0, 0);
        due("idle(), an empty one", x.idle(), 15);
        x.heap(0, 256, 0);
        due("idle()", x.idle(), 15);
        x = at(2, 2, 0);
        x.heap(4, 3, 1);
        x.heap(0, 3, 0);
        // weights 1, 2 by 3, and how many by 2: 0 0, 1 1, 2 1, 0 0
        due("idle(), sums by 3", x.idle(), 3);
        x.drop();
        x.drop();
        x.heap(4, 3, 9);
        x.heap(0, 3, 0);
        // by 11: 0 0, 1 1, 2 1, 3 0
        due("idle(), sums by 11", x.idle(), 2);
        x.turn(2);
        due("idle(), sums by 11, from a back", x.idle(), 2);
    }

    private static void toldSigns() {
        OneTurned x = at(9, 3, 1);
        x.heap(1, 0, 0);
        x.heap(4, 7, 9);
        x.sheet(0, 2, 2);
        x.sheet(1, 0, 3);
        promise = 38;
        due("judge(0)", x.judge(0), 0);
        x.cell(0, 0, 1);
        due("judge(0)", x.judge(0), 1);
        x.cell(0, 1, 1);
        due("judge(0)", x.judge(0), NONE);
        x.cell(0, 1, 1 + 16);
        due("judge(0), no sign", x.judge(0), 1);
        x.cell(0, 1, 1);
        x.cell(0, 0, -1);
        due("judge(0), no sign", x.judge(0), 0);
        due("judge(1), its size", x.judge(1), BAD);
        due("judge(2)", x.judge(2), -11);
        due("judge(4)", x.judge(4), BAD);
        due("judge(-1)", x.judge(-1), BAD);

        promise = 39;
        int[] none = {0, NONE, 0, 0};
        for (int what = 0; what < 4; what++) {
            due("match(0, " + what + "), none", x.match(0, what), none[what]);
        }
        x.cell(0, 0, 0);
        x.cell(0, 1, 5);
        // 2 + 3 weigh 5 and are even: cards 1 and 2, whatever 3 .. 8 show
        int[] some = {64, 6, 6, 510};
        for (int what = 0; what < 4; what++) {
            due("match(0, " + what + ")", x.match(0, what), some[what]);
        }
        due("match(0, 4)", x.match(0, 4), -7);
        due("match(0, -1)", x.match(0, -1), -7);
        due("match(1, 4), BAD ahead of -7", x.match(1, 4), BAD);
        due("match(2, 4), -11 ahead of -7", x.match(2, 4), -11);
        due("match(4, 4)", x.match(4, 4), BAD);
        due("match(-1, 0)", x.match(-1, 0), BAD);

        promise = 40;
        due("tells(0, 511, 0)", x.tells(0, 511, 0), 3);
        due("tells(0, 511, 1)", x.tells(0, 511, 1), 7);
        due("tells(0, 6, 0)", x.tells(0, 6, 0), NONE);
        due("tells(0, 6, 1)", x.tells(0, 6, 1), NONE);
        x.turn(1);
        due("tells(0, 6, 1)", x.tells(0, 6, 1), 6);
        due("tells(0, 512, 0)", x.tells(0, 512, 0), -7);
        due("tells(0, -1, 0)", x.tells(0, -1, 0), -7);
        due("tells(0, 0, 2)", x.tells(0, 0, 2), -7);
        due("tells(0, 0, -1)", x.tells(0, 0, -1), -7);
        due("tells(1, 512, 2), BAD ahead of -7", x.tells(1, 512, 2), BAD);
        due("tells(2, 512, 2), -11 ahead of -7", x.tells(2, 512, 2), -11);
        due("tells(4, 0, 0)", x.tells(4, 0, 0), BAD);
        due("count(2), nothing was turned", x.count(2), 0);

        promise = 41;
        x.turn(4);
        due("film(1)", x.film(1), 2);
        due("judge(1)", x.judge(1), NONE);
        due("copy(1, ..), ints and two of them", x.copy(1, 0, 0, 0, 2), 2);
        due("copy(1, 0, 0, 0, 3)", x.copy(1, 0, 0, 0, 3), -12);
        due("judge(0)", x.judge(0), NONE);
        x.turn(4);
        due("judge(1), as it was", x.judge(1), 0);
        due("film(4)", x.film(4), BAD);
        due("film(-1)", x.film(-1), BAD);
        x.drop();
        x.drop();
        due("film(3), no heaps", x.film(3), 0);
        due("judge(3)", x.judge(3), NONE);
        due("cell(3, 0, 0)", x.cell(3, 0, 0), -12);
    }

    private static void evenings() {
        promise = 42;
        OneTurned x = square(0);
        int[][] cards = {{0, 48271 % 9}, {7, 5}, {44487, (int) (44488L * 48271 % 2147483647L % 9)},
            {44488, (int) (44489L * 48271 % 2147483647L % 9)}, {99999, (int) (100000L * 48271 % 2147483647L % 9)}};
        for (int[] w : cards) {
            due("evening(" + w[0] + ", 0)", x.evening(w[0], 0), w[1]);
            due("evening(" + w[0] + ", 1)", x.evening(w[0], 1), 1);
        }
        due("evening(100000, 0)", x.evening(100000, 0), BAD);
        due("evening(-1, 0)", x.evening(-1, 0), BAD);
        due("evening(0, 2)", x.evening(0, 2), BAD);
        due("evening(0, -1)", x.evening(0, -1), BAD);
        x.turn(16);
        due("evening(0, 1), not all hold", x.evening(0, 1), 0);
        due("count(2), nothing was turned", x.count(2), 16);
        x = at(9, 3, 0);
        x.heap(0, 32, 0);
        due("evening(7, 1), card 5, the only one", x.evening(7, 1), 1);
        x.drop();
        x.heap(0, 33, 0);
        due("evening(7, 1), 0 would do, too", x.evening(7, 1), 0);

        promise = 43;
        x.drop();
        x.heap(0, 32, 0);
        int found = 0;
        for (int seed = 0; seed < 30; seed++) {
            found += x.evening(seed, 1);
        }
        long above = x.odds(0, 30, 0);
        long below = x.odds(0, 30, 1);
        Due.holds("promise 43: some are found, not all", found > 0 && found < 30);
        due("odds(0, 30, ..)", above * 30, below * found);
        due("odds, in lowest terms", java.math.BigInteger.valueOf(above).gcd(java.math.BigInteger.valueOf(below)).longValue(), 1);
        due("odds(7, 1, 0)", x.odds(7, 1, 0), 1);
        due("odds(7, 1, 1)", x.odds(7, 1, 1), 1);
        x.turn(32);
        due("odds(0, 50, 0), none", x.odds(0, 50, 0), 0);
        due("odds(0, 50, 1), none", x.odds(0, 50, 1), 1);
        x.turn(32);
        long late = 0;
        for (int i = 0; i < 50; i++) {
            late += (100000L + i) * 48271 % 2147483647L % 9 == 5 ? 1 : 0;
        }
        due("odds(99999, 50, ..), past 99999", x.odds(99999, 50, 0) * 50, x.odds(99999, 50, 1) * late);
        long[][] wrong = {{-1, 1, 0}, {100000, 1, 0}, {0, 0, 0}, {0, 51, 0}, {0, 1, 2}, {0, 1, -1}};
        for (long[] w : wrong) {
            due("odds(" + w[0] + ", " + w[1] + ", " + w[2] + ")", x.odds((int) w[0], (int) w[1], (int) w[2]), NO);
        }
    }

    private static void images() {
        promise = 44;
        OneTurned x = at(8, 2, 5);
        x.heap(1, 0, 1);
        force(x, "turns 1;swaps 1;looks 1;");
        due("image()", x.image(), 5);

        promise = 45;
        x.force(0);
        x.heap(0, 0, 0);
        x.heap(0, 1, 0);
        x.table(12, 6);
        x.turn(4095);
        feed(x, "turns 2;swaps 2;looks 2;");
        due("text()", x.text(), 2);
        x.sheet(0, 0, 5);
        feed(x, "ab");
        due("back()", x.back(), 5);
        int[] all = {8, 2, 5, 1, 3, 1, 2};
        for (int what = 0; what < all.length; what++) {
            due("count(" + what + ")", x.count(what), all[what]);
        }
        due("told(0, 3), by the width of the image", x.told(0, 3), 12);
        due("cell(0, 4, 0), sheets stay", x.cell(0, 4, 0), 1);
        x.turn(255);
        due("back(), again", x.back(), 5);
        x.turn(1);
        due("image(), another one", x.image(), 4);
        x.turn(8);
        due("back()", x.back(), 4);
        due("back(), there is none", new OneTurned().back(), STATE);
    }

    private static void sheets() {
        promise = 46;
        OneTurned x = new OneTurned();
        due("sheet(0, 2, 40)", x.sheet(0, 2, 40), 1);
        due("cell(0, 39, 7)", x.cell(0, 39, 7), 1);
        due("sheet(0, 2, 41)", x.sheet(0, 2, 41), BAD);
        due("sheet(0, 2, -1)", x.sheet(0, 2, -1), -14);
        due("sheet(0, 2, MIN)", x.sheet(0, 2, Integer.MIN_VALUE), -14);
        due("sheet(0, 3, -1), BAD ahead of -14", x.sheet(0, 3, -1), BAD);
        due("sheet(4, 0, -1), BAD ahead of -14", x.sheet(4, 0, -1), BAD);
        due("sheet(-1, 0, 1)", x.sheet(-1, 0, 1), BAD);
        due("sheet(0, -2, 1)", x.sheet(0, -2, 1), BAD);
        due("cell(0, 39, 7), refusals change nothing", x.cell(0, 39, 7), 1);
        due("sheet(0, -1, 99), n does not matter", x.sheet(0, -1, 99), 1);
        due("cell(0, 0, 0), missing", x.cell(0, 0, 0), -11);
        due("sheet(3, -1, -99), missing as it was", x.sheet(3, -1, -99), 1);
        due("sheet(4, -1, 0)", x.sheet(4, -1, 0), BAD);
        for (int sort = 0; sort < 3; sort++) {
            due("sheet(1, " + sort + ", 3)", x.sheet(1, sort, 3), 1);
            x.cell(1, 0, 1);
            x.cell(1, 1, 1);
            x.cell(1, 2, 1);
            due("sheet(1, " + sort + ", 3), all 0 again", x.sheet(1, sort, 3), 1);
            due("heapsBy(1, ..)", x.heapsBy(1, sort, 0, 1), 1);
            due("told, all 0", x.told(sort, 0) + x.told(sort, 1) + x.told(sort, 2), 0);
            due("heapsBy(1, ..) of another sort", x.heapsBy(1, (sort + 1) % 3, 0, 1), -13);
        }
        due("sheet(1, 0, 0)", x.sheet(1, 0, 0), 1);
        due("cell(1, 0, 0), no room", x.cell(1, 0, 0), -12);

        promise = 47;
        due("cell(4, 0, 0)", x.cell(4, 0, 0), BAD);
        due("cell(-1, 0, 0)", x.cell(-1, 0, 0), BAD);
        due("cell(2, -1, 0), -11 ahead of -12", x.cell(2, -1, 0), -11);
        x.sheet(2, 0, 4);
        due("cell(2, 4, 0)", x.cell(2, 4, 0), -12);
        due("cell(2, -1, 0)", x.cell(2, -1, 0), -12);
        due("cell(2, MAX, 0)", x.cell(2, Integer.MAX_VALUE, 0), -12);
        // sort, what is put, what stands there then
        int[][] puts = {{0, 127, 127}, {0, 128, -128}, {0, 256 + 5, 5}, {0, -129, 127}, {1, 32767, 32767}, {1, 32768, -32768},
            {1, 65536 * 3 + 9, 9}, {1, 300, 300}, {2, Integer.MIN_VALUE, Integer.MIN_VALUE}, {2, 65536 * 3 + 9, 65536 * 3 + 9}};
        for (int[] w : puts) {
            due("what a cell of sort " + w[0] + " keeps of " + w[1] + " is within", keptMembers(w[0], w[1]),
                w[2] >= 0 && w[2] <= 4095 ? w[2] : BAD);
        }

        promise = 48;
        x = new OneTurned();
        x.sheet(0, 2, 6);
        for (int i = 0; i < 6; i++) {
            x.cell(0, i, i + 1);
        }
        x.sheet(1, 2, 3);
        x.sheet(2, 1, 3);
        due("copy(0, 1, 1, 0, 3)", x.copy(0, 1, 1, 0, 3), 3);
        row(x, 1, new int[] {2, 3, 4});
        due("copy(0, 0, 0, 2, 4), as they were", x.copy(0, 0, 0, 2, 4), 4);
        row(x, 0, new int[] {1, 2, 1, 2, 3, 4});
        due("copy(0, 2, 0, 1, 4), as they were", x.copy(0, 2, 0, 1, 4), 4);
        row(x, 0, new int[] {1, 1, 2, 3, 4, 4});
        due("copy(0, 6, 1, 3, 0), none at the ends", x.copy(0, 6, 1, 3, 0), 0);
        int[][] outside = {{0, 7, 1, 0, 0}, {0, 0, 1, 4, 0}, {0, -1, 1, 0, 1}, {0, 0, 1, -1, 1}, {0, 0, 1, 0, -1}, {0, 0, 1, 0, 4},
            {0, 4, 1, 0, 3}, {0, 0, 1, 1, 3}, {0, 1, 1, 0, Integer.MAX_VALUE}, {0, Integer.MAX_VALUE, 1, 0, 1},
            {0, 0, 1, Integer.MAX_VALUE, 2}, {0, 0, 1, 0, Integer.MIN_VALUE}};
        for (int[] w : outside) {
            due("copy" + java.util.Arrays.toString(w), x.copy(w[0], w[1], w[2], w[3], w[4]), -12);
        }
        due("copy(0, 0, 2, 0, 1), unlike sorts", x.copy(0, 0, 2, 0, 1), -13);
        due("copy(0, 9, 2, 0, 1), -13 ahead of -12", x.copy(0, 9, 2, 0, 1), -13);
        due("copy(0, 9, 3, 0, 1), -11 ahead of all", x.copy(0, 9, 3, 0, 1), -11);
        due("copy(3, 0, 0, 0, 1)", x.copy(3, 0, 0, 0, 1), -11);
        due("copy(4, 0, 3, 0, 1), BAD ahead of -11", x.copy(4, 0, 3, 0, 1), BAD);
        due("copy(3, 0, 4, 0, 1), BAD ahead of -11", x.copy(3, 0, 4, 0, 1), BAD);
        due("copy(-1, 0, 0, 0, 1)", x.copy(-1, 0, 0, 0, 1), BAD);
        due("copy(0, 0, -1, 0, 1)", x.copy(0, 0, -1, 0, 1), BAD);
        row(x, 0, new int[] {1, 1, 2, 3, 4, 4});
        row(x, 1, new int[] {2, 3, 4});
    }

    /** What stands in a cell, told by a heap that has it for members. */
    private static int keptMembers(int sort, int put) {
        OneTurned x = new OneTurned();
        x.sheet(0, sort, 3);
        due("cell(0, 1, " + put + ")", x.cell(0, 1, put), 1);
        return x.heapsBy(0, sort, 0, 1) == 1 ? x.told(0, 1) : BAD;
    }

    private static void row(OneTurned x, int s, int[] want) {
        for (int i = 0; i < want.length; i++) {
            x.sheet(3, 2, 3);
            x.copy(s, i, 3, 1, 1);
            due("heapsBy(3, ..)", x.heapsBy(3, 2, 0, 1), 1);
            due("number " + i + " of sheet " + s, x.told(0, 1), want[i]);
            x.drop();
        }
        x.sheet(3, -1, 0);
    }

    private static void theHost() {
        promise = 49;
        OneTurned x = new OneTurned();
        int[] cells = {9, 1, 21, 2, 6, 0, 0, 4, 7, 3, 3, 0, 0};
        x.sheet(0, 0, cells.length);
        for (int i = 0; i < cells.length; i++) {
            x.cell(0, i, cells[i]);
        }
        due("heapsBy(0, 0, 1, 3), the second is none", x.heapsBy(0, 0, 1, 3), 2);
        int[][] told = {{1, 21, 2}, {4, 7, 3}};
        for (int h = 0; h < 2; h++) {
            for (int what = 0; what < 3; what++) {
                due("told(" + h + ", " + what + ")", x.told(h, what), told[h][what]);
            }
        }
        due("told(0, 3)", x.told(0, 3), 448);
        due("heapsBy(0, 0, 1, 5), what stood ahead came", x.heapsBy(0, 0, 1, 5), -12);
        due("count(3)", x.count(3), 5);
        due("heapsBy(0, 0, 10, 1)", x.heapsBy(0, 0, 10, 1), 1);
        due("heapsBy(0, 0, 11, 1), two of three", x.heapsBy(0, 0, 11, 1), -12);
        due("heapsBy(0, 0, 12, 1), one of three", x.heapsBy(0, 0, 12, 1), -12);
        due("heapsBy(0, 0, -1, 1)", x.heapsBy(0, 0, -1, 1), -12);
        due("heapsBy(0, 0, MAX, 7)", x.heapsBy(0, 0, Integer.MAX_VALUE, 7), -12);
        due("heapsBy(0, 0, MIN, 7)", x.heapsBy(0, 0, Integer.MIN_VALUE, 7), -12);
        due("heapsBy(0, 0, 0, 0)", x.heapsBy(0, 0, 0, 0), 0);
        due("heapsBy(0, 0, 10, 1), the last one", x.heapsBy(0, 0, 10, 1), 1);
        due("heapsBy(0, 0, 1, 3), full: others are left out", x.heapsBy(0, 0, 1, 3), 0);
        due("count(3)", x.count(3), 7);
        due("heapsBy(4, ..)", x.heapsBy(4, 0, 0, 1), BAD);
        due("heapsBy(-1, ..)", x.heapsBy(-1, 0, 0, 1), BAD);
        due("heapsBy(0, 3, ..)", x.heapsBy(0, 3, 0, 1), BAD);
        due("heapsBy(0, -1, ..)", x.heapsBy(0, -1, 0, 1), BAD);
        due("heapsBy(0, 0, 0, 8)", x.heapsBy(0, 0, 0, 8), BAD);
        due("heapsBy(0, 0, 0, -1)", x.heapsBy(0, 0, 0, -1), BAD);
        due("heapsBy(1, 0, 0, 8), BAD ahead of -11", x.heapsBy(1, 0, 0, 8), BAD);
        due("heapsBy(1, 0, -1, 1), -11 ahead of -12", x.heapsBy(1, 0, -1, 1), -11);
        due("heapsBy(0, 1, -1, 1), -13 ahead of -12", x.heapsBy(0, 1, -1, 1), -13);
        due("heapsBy(0, 2, 0, 0)", x.heapsBy(0, 2, 0, 0), -13);

        promise = 50;
        x = at(11, 3, 1 << 10);
        due("taken(10, 6)", x.taken(10, 6), 1);
        due("taken(9, 6)", x.taken(9, 6), 0);
        due("taken(0, 6)", x.taken(0, 6), 0);
        due("taken(11, 6), no such card", x.taken(11, 6), -11);
        due("taken(11, 0), -11 ahead of -13", x.taken(11, 0), -11);
        due("taken(10, 0), a card is no heap", x.taken(10, 0), -13);
        due("taken(12, 0), no heap yet", x.taken(12, 0), -11);
        due("taken(12, 6)", x.taken(12, 6), -11);
        for (int kind = 0; kind < 6; kind++) {
            x.heap(kind, 0, 0);
        }
        String[] kinds = {"100000", "110000", "101000", "110100", "100010", "101001"};
        for (int h = 0; h < 6; h++) {
            for (int kind = 0; kind < 6; kind++) {
                due("taken(" + (12 + h) + ", " + kind + ")", x.taken(12 + h, kind), kinds[h].charAt(kind) == '1' ? h : -13);
            }
            due("taken(" + (12 + h) + ", 6), a heap is no card", x.taken(12 + h, 6), -13);
        }
        due("taken(18, 0)", x.taken(18, 0), -11);
        x.heap(3, 0, 0);
        due("taken(18, 1)", x.taken(18, 1), 6);
        due("taken(19, 0)", x.taken(19, 0), -12);
        due("taken(-1, 0)", x.taken(-1, 0), -12);
        due("taken(19, 7), BAD ahead of -12", x.taken(19, 7), BAD);
        due("taken(0, -1)", x.taken(0, -1), BAD);
        due("taken(MIN, 6)", x.taken(Integer.MIN_VALUE, 6), -12);
        due("taken(MAX, 6)", x.taken(Integer.MAX_VALUE, 6), -12);
    }
}
