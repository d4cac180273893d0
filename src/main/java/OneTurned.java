import java.util.Arrays;

/**
 * Up to twelve cards on a table, heaps of them that should be even, and what
 * can be told of the cards by the signs of these heaps.
 *
 * A set of cards, or the way in which all cards lie (a "lie": which show their
 * backs), is one int with a bit for each card. Signs are one int with four
 * bits for each heap.
 */
public final class OneTurned {
    public static final int NONE = -1, BAD = -2, STATE = -3, FULL = -4;
    public static final long NO = -4611686018427387904L;

    private static final int NO_SUCH = -5, NO_PART = -7;
    private static final int NOTHING = -11, OUTSIDE = -12, OTHER_SORT = -13, BELOW_NONE = -14;

    private static final int MOST_CARDS = 12, MOST_HEAPS = 7, MOST_TEXTS = 6;
    private static final int MOST_MEMBERS = (1 << MOST_CARDS) - 1, MOST_MORE = 9;
    private static final int MOST_SHEETS = 4, MOST_CELLS = 40;
    private static final int MOST_SEED = 99999, MOST_SEEDS = 50;

    private static final int HEAP = 0, ROW = 1, FIGURE = 2, COLUMN = 3, SUM = 4, UNEVEN = 5;
    private static final int CARD = 6;

    private static final int TURNS = 0, SWAPS = 1, LOOKS = 2;
    private static final int MOST_SAID = 99;
    private static final String FIRST_TEXT = "turns 10 ; swaps 5 ; looks 1 + many ;";

    private static final int GONE = -1, BYTES = 0, SHORTS = 1, INTS = 2;

    private static final int ALL_EVEN = 0;
    /** No heap ever has this sign: sums leave 10 at the most. */
    private static final int NO_SIGN = 15;

    private static final int NOTHING_DONE = 0, FIRST_TURN = 1, FIRST_SWAP = 21;
    private static final int NOTHING_DONE_WEIGHT = 100;

    /** As many as there are sets of no more than three of twelve cards. */
    private static final int MOST_SIGNS = 1 + 12 + 66 + 220;

    private final Board board;
    private final Image image;
    private final Tape tape;
    private final Law[] laws;
    private int lawCount;
    private int law;
    private final Sheet[] sheets;
    /** Rows that calls use again, so that asking makes no objects. */
    private final int[] unlikeSigns;
    private final int[] weights;
    private final int[] names;
    private final int[] stack;

    public OneTurned() {
        board = new Board();
        image = new Image();
        tape = new Tape();
        laws = new Law[MOST_TEXTS];
        sheets = new Sheet[MOST_SHEETS];
        for (int s = 0; s < sheets.length; s++) {
            sheets[s] = new Sheet();
        }
        unlikeSigns = new int[MOST_SIGNS];
        weights = new int[FIRST_SWAP + MOST_CARDS];
        names = new int[Tape.NAMES];
        stack = new int[Tape.MOST_BYTES];
        for (int i = 0; i < FIRST_TEXT.length(); i++) {
            tape.put(FIRST_TEXT.charAt(i));
        }
        laws[0] = tape.read();
        tape.clear();
        lawCount = 1;
        law = 0;
    }

    // ---- the table, the law

    public int table(int n, int width) {
        if (!isWithin(n, 1, MOST_CARDS) || !isWithin(width, 1, MOST_CARDS)) {
            return BAD;
        }
        int before = board.cards;
        board.lieAnew(n, width, 0);
        return before;
    }

    public int turn(int set) {
        if (!board.hasCards(set)) {
            return BAD;
        }
        board.backs ^= set;
        return board.backs;
    }

    public int swap(int a, int b) {
        if (!board.hasCard(a) || !board.hasCard(b) || a == b) {
            return NO_SUCH;
        }
        if (!board.areUnlike(a, b)) {
            return 0;
        }
        board.backs ^= bit(a) | bit(b);
        return 1;
    }

    public int count(int what) {
        switch (what) {
            case 0:
                return board.cards;
            case 1:
                return board.wide;
            case 2:
                return board.backs;
            case 3:
                return board.heapCount;
            case 4:
                return lawCount;
            case 5:
                return law;
            case 6:
                return tape.size;
            default:
                return BAD;
        }
    }

    public int feed(int n, int a, int b, int c, int d, int e) {
        if (!isWithin(n, 1, 5) || !isByte(a) || !isByte(b) || !isByte(c) || !isByte(d) || !isByte(e)) {
            return BAD;
        }
        if (n > Tape.MOST_BYTES - tape.size) {
            return FULL;
        }
        tape.put(a);
        if (n > 1) {
            tape.put(b);
        }
        if (n > 2) {
            tape.put(c);
        }
        if (n > 3) {
            tape.put(d);
        }
        if (n > 4) {
            tape.put(e);
        }
        return tape.size;
    }

    public int text() {
        if (lawCount < 0 || lawCount >= laws.length) {
            return FULL;
        }
        Law read = tape.read();
        tape.clear();
        if (read == null) {
            return -100 - tape.fault();
        }
        laws[lawCount] = read;
        lawCount++;
        return lawCount - 1;
    }

    public int force(int t) {
        if (!isWithin(t, 0, lawCount - 1)) {
            return BAD;
        }
        int before = law;
        law = t;
        return before;
    }

    public int asks(int part, int c) {
        if (!board.hasCard(c)) {
            return NO_SUCH;
        }
        if (!isWithin(part, TURNS, LOOKS)) {
            return NO_PART;
        }
        return lawSays(part, c, board.failsNow());
    }

    // ---- heaps, signs

    public int heap(int kind, int members, int more) {
        if (!isWithin(kind, HEAP, UNEVEN) || !isWithin(members, 0, MOST_MEMBERS) || !isWithin(more, 0, MOST_MORE)) {
            return BAD;
        }
        if (!board.hasRoom()) {
            return FULL;
        }
        board.add(newHeap(kind, members, more));
        return board.heapCount - 1;
    }

    public int drop() {
        if (board.heapCount < 1) {
            return STATE;
        }
        board.keepHeaps(board.heapCount - 1);
        if (image.heapCount > board.heapCount) {
            image.isKept = false;
        }
        return board.heapCount;
    }

    public int told(int h, int what) {
        Heap heap = board.heapAt(h);
        if (heap == null) {
            return NO_SUCH;
        }
        switch (what) {
            case 0:
                return heap.kind();
            case 1:
                return heap.members;
            case 2:
                return heap.more;
            case 3:
                return heap.inside;
            case 4:
                return heap.signAt(board.backs);
            default:
                return NO_PART;
        }
    }

    public int signs(int what) {
        switch (what) {
            case 0:
                return board.signsAt(board.backs);
            case 1:
                return board.failingAt(board.backs);
            case 2:
                return board.failsNow();
            default:
                return BAD;
        }
    }

    public int look(int set) {
        if (!board.hasCards(set)) {
            return BAD;
        }
        return board.signsAt(board.backs ^ set);
    }

    public int one() {
        return menders(board.backs);
    }

    public int two(int what) {
        if (!isWithin(what, 0, 1)) {
            return BAD;
        }
        int twos = 0;
        for (int a = 0; a < board.cards; a++) {
            for (int b = a + 1; b < board.cards; b++) {
                if (board.allHoldAt(board.backs ^ bit(a) ^ bit(b))) {
                    if (what == 1) {
                        return asTwo(a, b);
                    }
                    twos++;
                }
            }
        }
        return what == 0 ? twos : NONE;
    }

    // ---- what can't be seen

    public int counts(int k) {
        if (!isWithin(k, 0, MOST_CARDS)) {
            return BAD;
        }
        int now = board.signsAt(board.backs);
        int sets = 0;
        for (int set = 0; set <= board.allCards(); set++) {
            if (Integer.bitCount(set) == k && board.hasSignsAt(board.backs ^ set, now)) {
                sets++;
            }
        }
        return sets;
    }

    public int unseen(int what) {
        if (!isWithin(what, 0, 1)) {
            return BAD;
        }
        int set = fewest(1, board.allCards(), board.signsAt(board.backs));
        return what == 0 ? sizeOf(set) : set;
    }

    public int apart(int what) {
        switch (what) {
            case 0:
                return unlikeByOne();
            case 1:
                return firstAlike();
            default:
                return BAD;
        }
    }

    public int reach(int k) {
        if (!isWithin(k, 0, 3)) {
            return BAD;
        }
        int known = 0;
        for (int set = 0; set <= board.allCards(); set++) {
            if (Integer.bitCount(set) <= k) {
                known = noteSigns(known, board.signsAt(board.backs ^ set));
            }
        }
        return known;
    }

    public int lay(int set, int what) {
        if (!board.hasCards(set)) {
            return BAD;
        }
        if (!isWithin(what, 0, 1)) {
            return NO_PART;
        }
        int turned = fewest(0, set, ALL_EVEN);
        return what == 0 ? sizeOf(turned) : turned;
    }

    public int even(int set) {
        if (!board.hasCards(set)) {
            return BAD;
        }
        int turned = fewest(0, set, ALL_EVEN);
        if (turned == NONE) {
            return NONE;
        }
        board.backs ^= turned;
        return sizeOf(turned);
    }

    public int needs(int n) {
        if (!isWithin(n, 0, 9999)) {
            return BAD;
        }
        int r = 0;
        while (r < 31 && (1 << r) < n + r + 1) {
            r++;
        }
        return r;
    }

    // ---- one coin

    public int can(int n) {
        if (!isWithin(n, 1, 99999)) {
            return BAD;
        }
        return Integer.bitCount(n) == 1 ? 1 : 0;
    }

    public int reads() {
        if (!areTwos()) {
            return STATE;
        }
        return numbersTogether();
    }

    public int coin(int square) {
        if (!board.hasCard(square)) {
            return BAD;
        }
        if (!areTwos()) {
            return STATE;
        }
        return numbersTogether() ^ square;
    }

    // ---- changed about, swept, cut, moved

    public int swaps(int what) {
        if (!isWithin(what, 0, 2)) {
            return BAD;
        }
        int now = board.signsAt(board.backs);
        int lesser = 0;
        for (int c = 0; c < board.cards - 1; c++) {
            if (board.areUnlike(c, c + 1)) {
                int lie = board.backs ^ bit(c) ^ bit(c + 1);
                boolean shows = what == 2 ? board.allHoldAt(lie) : board.hasSignsAt(lie, now) == (what == 0);
                lesser |= shows ? bit(c) : 0;
            }
        }
        return lesser;
    }

    public int swept(int r, int what) {
        int row = board.rowCards(r);
        if (row == 0) {
            return NO_SUCH;
        }
        if (!isWithin(what, 0, 2)) {
            return NO_PART;
        }
        int others = board.backs & ~row;
        int ways = 0;
        int least = NONE;
        for (int lie = 0; lie <= row; lie++) {
            if ((lie & ~row) == 0 && board.allHoldAt(others | lie)) {
                least = ways == 0 ? lie : least;
                ways++;
            }
        }
        if (what == 2) {
            return ways == 1 && least == (board.backs & row) ? 1 : 0;
        }
        return what == 0 ? ways : least;
    }

    public int cut(int n) {
        if (!isWithin(n, 0, board.cards - 1)) {
            return BAD;
        }
        board.backs = board.cutAt(n);
        return board.backs;
    }

    public int cuts(int what) {
        if (!isWithin(what, 0, 2)) {
            return BAD;
        }
        int now = board.signsAt(board.backs);
        int places = 0;
        for (int n = 1; n < board.cards; n++) {
            int lie = board.cutAt(n);
            boolean is = what == 2 ? lie == board.backs : board.hasSignsAt(lie, what == 0 ? now : ALL_EVEN);
            places |= is ? bit(n) : 0;
        }
        return places;
    }

    public int move(int a, int b) {
        if (!board.hasCard(a) || !board.hasCard(b)) {
            return NO_SUCH;
        }
        board.backs = board.movedTo(a, b);
        return board.backs;
    }

    public int moves(int what) {
        if (!isWithin(what, 0, 1)) {
            return BAD;
        }
        int now = board.signsAt(board.backs);
        int many = 0;
        for (int a = 0; a < board.cards; a++) {
            for (int b = 0; b < board.cards; b++) {
                int lie = board.movedTo(a, b);
                if (lie != board.backs && board.hasSignsAt(lie, now) == (what == 1)) {
                    many++;
                }
            }
        }
        return many;
    }

    // ---- what is likeliest

    public int likely(int what) {
        weighWays();
        switch (what) {
            case 0:
                return likeliest();
            case 1:
                return weightOfWay(likeliest());
            case 2:
                return weightOfAllWays();
            default:
                return BAD;
        }
    }

    public long right(int part) {
        weighWays();
        int way = likeliest();
        if (!isWithin(part, 0, 1) || way == NONE) {
            return NO;
        }
        return inLowestTerms(weightOfWay(way), weightOfAllWays(), part);
    }

    public int cheapest(int what) {
        if (!isWithin(what, 0, 1)) {
            return BAD;
        }
        int among = menders(board.backs);
        int fails = board.failsNow();
        int card = NONE;
        int least = 0;
        int together = 0;
        for (int c = 0; c < board.cards; c++) {
            if (hasBit(among, c)) {
                int cost = lawSays(LOOKS, c, fails);
                together += cost;
                if (card == NONE || cost < least) {
                    card = c;
                    least = cost;
                }
            }
        }
        return what == 0 ? card : together;
    }

    public int lies() {
        int lying = onlyFailing(board.backs);
        for (int c = 0; c < board.cards; c++) {
            lying |= onlyFailing(board.backs ^ bit(c));
        }
        return lying;
    }

    public int idle() {
        int now = board.signsAt(board.backs);
        int idlers = board.allHeaps();
        for (int lie = 0; lie <= board.allCards(); lie++) {
            int changed = board.otherSignsAt(lie, now);
            if (Integer.bitCount(changed) == 1) {
                idlers &= ~changed;
            }
        }
        return idlers;
    }

    // ---- told signs

    public int judge(int s) {
        int refusal = refusalOfTold(s);
        if (refusal != 0) {
            return refusal;
        }
        return lowestBit(board.otherSignsAt(board.backs, toldSigns(s)));
    }

    public int match(int s, int what) {
        int refusal = refusalOfTold(s);
        if (refusal != 0) {
            return refusal;
        }
        if (!isWithin(what, 0, 3)) {
            return NO_PART;
        }
        int wanted = toldSigns(s);
        int ways = 0;
        int least = NONE;
        int inAll = board.allCards();
        int inAny = 0;
        for (int lie = 0; lie <= board.allCards(); lie++) {
            if (board.hasSignsAt(lie, wanted)) {
                least = ways == 0 ? lie : least;
                ways++;
                inAll &= lie;
                inAny |= lie;
            }
        }
        switch (what) {
            case 0:
                return ways;
            case 1:
                return least;
            case 2:
                return ways == 0 ? 0 : inAll;
            default:
                return inAny;
        }
    }

    public int tells(int s, int set, int what) {
        int refusal = refusalOfTold(s);
        if (refusal != 0) {
            return refusal;
        }
        if (!board.hasCards(set) || !isWithin(what, 0, 1)) {
            return NO_PART;
        }
        int turned = fewest(0, set, toldSigns(s));
        return what == 0 ? sizeOf(turned) : turned;
    }

    public int film(int s) {
        Sheet into = sheetAt(s);
        if (into == null) {
            return BAD;
        }
        into.become(INTS, board.heapCount);
        int now = board.signsAt(board.backs);
        for (int h = 0; h < board.heapCount; h++) {
            into.set(h, signIn(now, h));
        }
        return board.heapCount;
    }

    // ---- evenings

    public int evening(int seed, int what) {
        if (!isWithin(seed, 0, MOST_SEED) || !isWithin(what, 0, 1)) {
            return BAD;
        }
        int card = cardBy(seed);
        if (what == 0) {
            return card;
        }
        return isFound(card) ? 1 : 0;
    }

    public long odds(int seed, int seeds, int part) {
        if (!isWithin(seed, 0, MOST_SEED) || !isWithin(seeds, 1, MOST_SEEDS) || !isWithin(part, 0, 1)) {
            return NO;
        }
        int found = 0;
        for (int i = 0; i < seeds; i++) {
            if (isFound(cardBy(seed + i))) {
                found++;
            }
        }
        return inLowestTerms(found, seeds, part);
    }

    public int image() {
        image.keep(board, law);
        return board.backs;
    }

    public int back() {
        if (!image.isKept) {
            return STATE;
        }
        board.keepHeaps(image.heapCount);
        board.lieAnew(image.cards, image.wide, image.backs);
        law = image.law;
        return board.backs;
    }

    // ---- the host

    public int sheet(int s, int sort, int n) {
        Sheet into = sheetAt(s);
        if (into == null || !isWithin(sort, GONE, INTS)) {
            return BAD;
        }
        if (sort == GONE) {
            into.become(GONE, 0);
            return 1;
        }
        if (n > MOST_CELLS) {
            return BAD;
        }
        if (n < 0) {
            return BELOW_NONE;
        }
        into.become(sort, n);
        return 1;
    }

    public int cell(int s, int i, int v) {
        Sheet into = sheetAt(s);
        if (into == null) {
            return BAD;
        }
        if (into.isMissing()) {
            return NOTHING;
        }
        if (!isWithin(i, 0, into.size - 1)) {
            return OUTSIDE;
        }
        into.set(i, v);
        return 1;
    }

    public int copy(int s, int i, int other, int j, int n) {
        Sheet from = sheetAt(s);
        Sheet into = sheetAt(other);
        if (from == null || into == null) {
            return BAD;
        }
        if (from.isMissing() || into.isMissing()) {
            return NOTHING;
        }
        if (from.sort != into.sort) {
            return OTHER_SORT;
        }
        if (!from.hasStretch(i, n) || !into.hasStretch(j, n)) {
            return OUTSIDE;
        }
        System.arraycopy(from.cells, i, into.cells, j, n);
        return n;
    }

    public int heapsBy(int s, int sort, int at, int n) {
        Sheet from = sheetAt(s);
        if (from == null || !isWithin(sort, BYTES, INTS) || !isWithin(n, 0, MOST_HEAPS)) {
            return BAD;
        }
        if (from.isMissing()) {
            return NOTHING;
        }
        if (from.sort != sort) {
            return OTHER_SORT;
        }
        int came = 0;
        int place = at;
        for (int i = 0; i < n; i++) {
            if (!from.hasStretch(place, 3)) {
                return OUTSIDE;
            }
            if (heap(from.get(place), from.get(place + 1), from.get(place + 2)) >= 0) {
                came++;
            }
            place += 3;
        }
        return came;
    }

    public int taken(int i, int kind) {
        if (!isWithin(kind, HEAP, CARD)) {
            return BAD;
        }
        if (!isWithin(i, 0, MOST_CARDS + MOST_HEAPS - 1)) {
            return OUTSIDE;
        }
        return i < MOST_CARDS ? takenCard(i, kind) : takenHeap(i - MOST_CARDS, kind);
    }

    // ---- what the calls share: numbers and bits

    private static boolean isWithin(int number, int least, int most) {
        return number >= least && number <= most;
    }

    private static boolean isByte(int number) {
        return isWithin(number, 0, 255);
    }

    private static int bit(int place) {
        return 1 << place;
    }

    private static int bitsBelow(int place) {
        return (1 << place) - 1;
    }

    private static boolean hasBit(int set, int place) {
        return ((set >> place) & 1) != 0;
    }

    /** How many a set has; NONE stands for no set. */
    private static int sizeOf(int set) {
        return set == NONE ? NONE : Integer.bitCount(set);
    }

    private static int lowestBit(int set) {
        for (int place = 0; place < 32; place++) {
            if (hasBit(set, place)) {
                return place;
            }
        }
        return NONE;
    }

    private static int signIn(int signs, int h) {
        return (signs >> (4 * h)) & 15;
    }

    private static int asTwo(int lesser, int other) {
        return 100 * lesser + other;
    }

    private static long inLowestTerms(int above, int below, int part) {
        int divisor = below;
        int rest = above;
        // 64 steps are more than any two ints can need.
        for (int i = 0; i < 64 && rest != 0; i++) {
            int left = divisor % rest;
            divisor = rest;
            rest = left;
        }
        int number = part == 0 ? above : below;
        return divisor == 0 ? number : number / divisor;
    }

    // ---- what the calls share: the law

    private int lawSays(int part, int card, int fails) {
        Law text = isWithin(law, 0, laws.length - 1) ? laws[law] : null;
        if (text == null) {
            return 0;
        }
        names[0] = card;
        names[1] = Board.rowOf(card, board.wide);
        names[2] = Board.columnOf(card, board.wide);
        names[3] = hasBit(board.backs, card) ? 1 : 0;
        names[4] = board.cards;
        names[5] = fails;
        return Math.max(0, Math.min(MOST_SAID, text.says(part, names, stack)));
    }

    // ---- what the calls share: turns in thought

    /** Cards (bits) by each of which, turned alone as all lie so, all heaps hold. */
    private int menders(int lie) {
        int cards = 0;
        for (int c = 0; c < board.cards; c++) {
            cards |= board.allHoldAt(lie ^ bit(c)) ? bit(c) : 0;
        }
        return cards;
    }

    /**
     * Of all subsets of a set, none below first, that with the fewest cards by
     * which, turned, signs are as wanted: of like ones the least; or NONE.
     */
    private int fewest(int first, int set, int wanted) {
        int best = NONE;
        for (int part = first; part <= set; part++) {
            boolean isBetter = best == NONE || Integer.bitCount(part) < Integer.bitCount(best);
            if ((part & ~set) == 0 && isBetter && board.hasSignsAt(board.backs ^ part, wanted)) {
                best = part;
            }
        }
        return best;
    }

    private int unlikeByOne() {
        int known = 0;
        for (int c = 0; c < board.cards; c++) {
            known = noteSigns(known, board.signsAt(board.backs ^ bit(c)));
        }
        return known;
    }

    private int firstAlike() {
        for (int a = 0; a < board.cards; a++) {
            int signsByA = board.signsAt(board.backs ^ bit(a));
            for (int b = a + 1; b < board.cards; b++) {
                if (board.hasSignsAt(board.backs ^ bit(b), signsByA)) {
                    return asTwo(a, b);
                }
            }
        }
        return NONE;
    }

    /** Puts signs behind those known, if they aren't yet: how many are known then. */
    private int noteSigns(int known, int signs) {
        for (int i = 0; i < known && i < unlikeSigns.length; i++) {
            if (unlikeSigns[i] == signs) {
                return known;
            }
        }
        if (!isWithin(known, 0, unlikeSigns.length - 1)) {
            return known;
        }
        unlikeSigns[known] = signs;
        return known + 1;
    }

    /** Heaps (bits) beside each of which all others hold, if all cards lie so. */
    private int onlyFailing(int lie) {
        int failing = board.failingAt(lie);
        if (failing == 0) {
            return board.allHeaps();
        }
        return Integer.bitCount(failing) == 1 ? failing : 0;
    }

    // ---- what the calls share: one coin

    private boolean areTwos() {
        return board.cards <= 8 && Integer.bitCount(board.cards) == 1;
    }

    private int numbersTogether() {
        int numbers = 0;
        for (int c = 0; c < board.cards; c++) {
            numbers ^= hasBit(board.backs, c) ? c : 0;
        }
        return numbers;
    }

    // ---- what the calls share: ways

    /** Puts each way's weight in its row; 0 for what is none. */
    private void weighWays() {
        Arrays.fill(weights, 0);
        int fails = board.failsNow();
        weights[NOTHING_DONE] = board.allHoldAt(board.backs) ? NOTHING_DONE_WEIGHT : 0;
        for (int c = 0; c < MOST_CARDS; c++) {
            if (board.hasCard(c)) {
                int undone = board.backs ^ bit(c);
                weights[FIRST_TURN + c] = board.allHoldAt(undone) ? lawSays(TURNS, c, fails) : 0;
            }
            if (board.hasCard(c + 1) && board.areUnlike(c, c + 1)) {
                int undone = board.backs ^ bit(c) ^ bit(c + 1);
                weights[FIRST_SWAP + c] = board.allHoldAt(undone) ? lawSays(SWAPS, c, fails) : 0;
            }
        }
    }

    private int likeliest() {
        int best = NONE;
        int most = 0;
        for (int way = 0; way < weights.length; way++) {
            if (weights[way] > most) {
                most = weights[way];
                best = way;
            }
        }
        return best;
    }

    private int weightOfWay(int way) {
        return isWithin(way, 0, weights.length - 1) ? weights[way] : 0;
    }

    private int weightOfAllWays() {
        int all = 0;
        for (int weight : weights) {
            all += weight;
        }
        return all;
    }

    // ---- what the calls share: told signs, evenings

    private Sheet sheetAt(int s) {
        return isWithin(s, 0, sheets.length - 1) ? sheets[s] : null;
    }

    /** Why a sheet can't tell the signs of all heaps; 0, if it can. */
    private int refusalOfTold(int s) {
        Sheet teller = sheetAt(s);
        if (teller == null) {
            return BAD;
        }
        if (teller.isMissing()) {
            return NOTHING;
        }
        return teller.size == board.heapCount ? 0 : BAD;
    }

    private int toldSigns(int s) {
        Sheet teller = sheetAt(s);
        int signs = 0;
        for (int h = 0; h < board.heapCount; h++) {
            int sign = teller == null ? NO_SIGN : teller.get(h);
            signs |= (isWithin(sign, 0, NO_SIGN) ? sign : NO_SIGN) << (4 * h);
        }
        return signs;
    }

    private int cardBy(int seed) {
        long lot = (seed + 1L) * 48271L % 2147483647L;
        return board.cards > 0 ? (int) (lot % board.cards) : 0;
    }

    private boolean isFound(int card) {
        return menders(board.backs ^ bit(card)) == bit(card);
    }

    // ---- what the calls share: kinds

    private static Heap newHeap(int kind, int members, int more) {
        switch (kind) {
            case ROW:
                return new Row(members, more);
            case FIGURE:
                return new Figure(members, more);
            case COLUMN:
                return new Column(members, more);
            case SUM:
                return new Sum(members, more);
            case UNEVEN:
                return new Uneven(members, more);
            default:
                return new Heap(members, more);
        }
    }

    private static boolean isOfKind(Heap heap, int kind) {
        switch (kind) {
            case HEAP:
                return true;
            case ROW:
                return heap instanceof Row;
            case FIGURE:
                return heap instanceof Figure;
            case COLUMN:
                return heap instanceof Column;
            case SUM:
                return heap instanceof Sum;
            case UNEVEN:
                return heap instanceof Uneven;
            default:
                return false;
        }
    }

    private int takenCard(int card, int kind) {
        if (!board.hasCard(card)) {
            return NOTHING;
        }
        if (kind != CARD) {
            return OTHER_SORT;
        }
        return hasBit(board.backs, card) ? 1 : 0;
    }

    private int takenHeap(int h, int kind) {
        Heap heap = board.heapAt(h);
        if (heap == null) {
            return NOTHING;
        }
        return isOfKind(heap, kind) ? h : OTHER_SORT;
    }

    // ---- kinds of heaps

    /** A heap of the first kind, which heaps of all other kinds are, too. */
    private static class Heap {
        final int members;
        final int more;
        /** Cards (bits) in it, as many and as wide as they lie now. */
        int inside;

        Heap(int members, int more) {
            this.members = members;
            this.more = more;
        }

        int kind() {
            return HEAP;
        }

        boolean hasInside(int card, int wide) {
            return hasBit(members, card);
        }

        /** Its sign, if all cards lie so. */
        int signAt(int lie) {
            return Integer.bitCount(lie & inside) & 1;
        }

        final void lieAmong(int cards, int wide) {
            inside = 0;
            for (int c = 0; c < cards; c++) {
                inside |= hasInside(c, wide) ? bit(c) : 0;
            }
        }
    }

    private static class Row extends Heap {
        Row(int members, int more) {
            super(members, more);
        }

        int kind() {
            return ROW;
        }

        boolean hasInside(int card, int wide) {
            return Board.rowOf(card, wide) == more;
        }
    }

    private static class Figure extends Heap {
        Figure(int members, int more) {
            super(members, more);
        }

        int kind() {
            return FIGURE;
        }

        boolean hasInside(int card, int wide) {
            return hasBit(card, more & 3);
        }
    }

    private static final class Column extends Row {
        Column(int members, int more) {
            super(members, more);
        }

        int kind() {
            return COLUMN;
        }

        boolean hasInside(int card, int wide) {
            return Board.columnOf(card, wide) == more;
        }
    }

    private static final class Sum extends Heap {
        Sum(int members, int more) {
            super(members, more);
        }

        int kind() {
            return SUM;
        }

        int signAt(int lie) {
            int shown = lie & inside;
            int weight = 0;
            for (int c = 0; c < MOST_CARDS; c++) {
                weight += ((shown >> c) & 1) * (c + 1);
            }
            int divisor = more + 2;
            return divisor > 0 ? weight % divisor : 0;
        }
    }

    private static final class Uneven extends Figure {
        Uneven(int members, int more) {
            super(members, more);
        }

        int kind() {
            return UNEVEN;
        }

        boolean hasInside(int card, int wide) {
            return super.hasInside(card, wide) != hasBit(members, card);
        }

        int signAt(int lie) {
            return 1 - super.signAt(lie);
        }
    }

    // ---- the board: cards and heaps as they are now

    private static final class Board {
        int cards = 9;
        int wide = 3;
        int backs = 0;
        int heapCount = 0;
        private final Heap[] heaps = new Heap[MOST_HEAPS];

        static int rowOf(int card, int wide) {
            return wide > 0 ? card / wide : 0;
        }

        static int columnOf(int card, int wide) {
            return wide > 0 ? card % wide : 0;
        }

        void lieAnew(int cards, int wide, int backs) {
            this.cards = cards;
            this.wide = wide;
            this.backs = backs;
            for (Heap heap : heaps) {
                if (heap != null) {
                    heap.lieAmong(cards, wide);
                }
            }
        }

        int allCards() {
            return bitsBelow(cards);
        }

        boolean hasCard(int card) {
            return isWithin(card, 0, cards - 1);
        }

        boolean hasCards(int set) {
            return isWithin(set, 0, allCards());
        }

        boolean areUnlike(int a, int b) {
            return hasBit(backs, a) != hasBit(backs, b);
        }

        /** Cards (bits) of a row; 0, if there is no such row. */
        int rowCards(int row) {
            int set = 0;
            for (int c = 0; c < cards; c++) {
                set |= rowOf(c, wide) == row ? bit(c) : 0;
            }
            return set;
        }

        /** How all lie, if the first n come behind all others. */
        int cutAt(int n) {
            return (backs >> n) | ((backs & bitsBelow(n)) << (cards - n));
        }

        /** How all lie, if the card at place a is put in at place b. */
        int movedTo(int a, int b) {
            int card = (backs >> a) & 1;
            int others = (backs & bitsBelow(a)) | ((backs >> (a + 1)) << a);
            return (others & bitsBelow(b)) | (card << b) | ((others >> b) << (b + 1));
        }

        boolean hasRoom() {
            return heapCount < heaps.length;
        }

        void add(Heap heap) {
            if (heap != null && isWithin(heapCount, 0, heaps.length - 1)) {
                heap.lieAmong(cards, wide);
                heaps[heapCount] = heap;
                heapCount++;
            }
        }

        void keepHeaps(int first) {
            for (int h = Math.max(0, first); h < heaps.length; h++) {
                heaps[h] = null;
            }
            heapCount = Math.min(heapCount, first);
        }

        Heap heapAt(int h) {
            return h >= 0 && h < heapCount && h < heaps.length ? heaps[h] : null;
        }

        int allHeaps() {
            return bitsBelow(heapCount);
        }

        int signsAt(int lie) {
            int signs = 0;
            for (int h = 0; h < heapCount; h++) {
                Heap heap = heapAt(h);
                signs |= heap == null ? 0 : heap.signAt(lie) << (4 * h);
            }
            return signs;
        }

        /** Heaps (bits) whose signs, if all cards lie so, are other than wanted. */
        int otherSignsAt(int lie, int wanted) {
            int others = 0;
            for (int h = 0; h < heapCount; h++) {
                Heap heap = heapAt(h);
                others |= heap != null && heap.signAt(lie) != signIn(wanted, h) ? bit(h) : 0;
            }
            return others;
        }

        int failingAt(int lie) {
            return otherSignsAt(lie, ALL_EVEN);
        }

        int failsNow() {
            return Integer.bitCount(failingAt(backs));
        }

        /** Ends at the first sign that is other: most lies are told by one or two. */
        boolean hasSignsAt(int lie, int wanted) {
            for (int h = 0; h < heapCount; h++) {
                Heap heap = heapAt(h);
                if (heap != null && heap.signAt(lie) != signIn(wanted, h)) {
                    return false;
                }
            }
            return true;
        }

        boolean allHoldAt(int lie) {
            return hasSignsAt(lie, ALL_EVEN);
        }
    }

    private static final class Image {
        boolean isKept = false;
        int cards;
        int wide;
        int backs;
        int heapCount;
        int law;

        void keep(Board board, int lawNow) {
            isKept = true;
            cards = board.cards;
            wide = board.wide;
            backs = board.backs;
            heapCount = board.heapCount;
            law = lawNow;
        }
    }

    // ---- texts

    /**
     * A text that was read: for each part its tokens (NEGATIVE for a - ahead
     * of a ONE), each behind what it is reckoned of, and no brackets.
     */
    private static final class Law {
        private final int[] items;
        private final int turnsEnd;
        private final int swapsEnd;

        Law(int[] items, int turnsEnd, int swapsEnd) {
            this.items = items;
            this.turnsEnd = turnsEnd;
            this.swapsEnd = swapsEnd;
        }

        int says(int part, int[] names, int[] stack) {
            int from = part == TURNS ? 0 : part == SWAPS ? turnsEnd : swapsEnd;
            int to = part == TURNS ? turnsEnd : part == SWAPS ? swapsEnd : items.length;
            int height = 0;
            for (int i = Math.max(0, from); i < to && i < items.length; i++) {
                height = reckon(items[i], names, stack, height);
            }
            return height > 0 && height <= stack.length ? stack[height - 1] : 0;
        }

        /** Does one item's work on the stack: how high it is then. */
        private static int reckon(int item, int[] names, int[] stack, int height) {
            int name = item - Tape.FIRST_NAME;
            if (item >= Tape.FIRST_NUMBER) {
                return push(item - Tape.FIRST_NUMBER, stack, height);
            }
            if (name >= 0 && name < names.length) {
                return push(names[name], stack, height);
            }
            if (height < 1 || height > stack.length) {
                return height;
            }
            int right = stack[height - 1];
            if (item == Tape.NOT || item == Tape.NEGATIVE) {
                return push(item == Tape.NOT ? asNumber(right == 0) : -right, stack, height - 1);
            }
            int left = height < 2 ? 0 : stack[height - 2];
            return push(joined(item, left, right), stack, height - 2);
        }

        private static int push(int number, int[] stack, int height) {
            if (height < 0 || height >= stack.length) {
                return height;
            }
            stack[height] = number;
            return height + 1;
        }

        private static int joined(int item, int left, int right) {
            switch (item) {
                case Tape.OR:
                    return asNumber(left != 0 || right != 0);
                case Tape.AND:
                    return asNumber(left != 0 && right != 0);
                case '<':
                    return asNumber(left < right);
                case '=':
                    return asNumber(left == right);
                case '+':
                    return left + right;
                case '-':
                    return left - right;
                default:
                    return left * right;
            }
        }

        private static int asNumber(boolean isSo) {
            return isSo ? 1 : 0;
        }
    }

    /**
     * The tape, and how it is read as a text: first scanned for tokens, up to
     * the first that is none. Then each read.. method takes what it is named
     * for from the token that stands next, and puts items for it; it answers
     * false at the first token that can't stand where it stands, and leaves it.
     * open is how many of ( , not and - ahead are open there.
     */
    private static final class Tape {
        static final int MOST_BYTES = 160;
        static final int NAMES = 6;
        /** Tokens: words are their places in WORDS, marks their bytes, numbers so much more than FIRST_NUMBER. */
        static final int OR = 3, AND = 4, NOT = 5, FIRST_NAME = 6, NEGATIVE = 12, FIRST_NUMBER = 1000;
        private static final int END = -1, WRONG = -2;
        private static final String WORDS = "turns swaps looks or and not card row column back many fails ";
        private static final int MOST_DIGITS = 4, MOST_OPEN = 5;
        /** Levels of what is joined: each joins what the next ones read. */
        private static final int ORS = 0, ANDS = 1, SUMS = 2, TERMS = 3;

        int size = 0;
        private final int[] bytes = new int[MOST_BYTES];
        /** Each token takes a byte at least; one more for the end. */
        private final int[] tokens = new int[MOST_BYTES + 1];
        private final int[] places = new int[MOST_BYTES + 1];
        private final int[] items = new int[MOST_BYTES];
        private int scanned = 0;
        private int next = 0;
        private int used = 0;

        void put(int b) {
            if (isWithin(size, 0, bytes.length - 1)) {
                bytes[size] = b;
                size++;
            }
        }

        void clear() {
            size = 0;
        }

        /** The place of the token at which reading stopped. */
        int fault() {
            return isWithin(next, 0, places.length - 1) ? places[next] : 0;
        }

        /** The text that stands here; null, if it has a fault. */
        Law read() {
            scan();
            next = 0;
            used = 0;
            if (!readPart(TURNS)) {
                return null;
            }
            int turnsEnd = used;
            if (!readPart(SWAPS)) {
                return null;
            }
            int swapsEnd = used;
            if (!readPart(LOOKS) || token() != END || used < 0) {
                return null;
            }
            return new Law(Arrays.copyOf(items, used), turnsEnd, swapsEnd);
        }

        // -- reading tokens

        private int token() {
            return isWithin(next, 0, tokens.length - 1) ? tokens[next] : END;
        }

        private boolean readPart(int key) {
            return readToken(key) && readJoined(ORS, 0) && readToken(';');
        }

        private boolean readToken(int wanted) {
            if (token() != wanted) {
                return false;
            }
            next++;
            return true;
        }

        /** What a level joins, one or more, from the left on. */
        private boolean readJoined(int level, int open) {
            if (!readOperand(level, open)) {
                return false;
            }
            for (int i = 0; i < MOST_BYTES && joinsAt(level); i++) {
                int sign = token();
                next++;
                if (!readOperand(level, open)) {
                    return false;
                }
                putItem(sign);
            }
            return true;
        }

        private boolean joinsAt(int level) {
            int sign = token();
            switch (level) {
                case ORS:
                    return sign == OR;
                case ANDS:
                    return sign == AND;
                case SUMS:
                    return sign == '+' || sign == '-';
                default:
                    return sign == '*';
            }
        }

        private boolean readOperand(int level, int open) {
            switch (level) {
                case ORS:
                    return readJoined(ANDS, open);
                case ANDS:
                    return token() == NOT ? readNot(open) : readComparison(open);
                case SUMS:
                    return readJoined(TERMS, open);
                default:
                    return readOne(open);
            }
        }

        private boolean readNot(int open) {
            if (open >= MOST_OPEN) {
                return false;
            }
            next++;
            if (!readOperand(ANDS, open + 1)) {
                return false;
            }
            putItem(NOT);
            return true;
        }

        private boolean readComparison(int open) {
            if (!readJoined(SUMS, open)) {
                return false;
            }
            int sign = token();
            if (sign != '<' && sign != '=') {
                return true;
            }
            next++;
            if (!readJoined(SUMS, open)) {
                return false;
            }
            putItem(sign);
            return true;
        }

        private boolean readOne(int open) {
            int first = token();
            if (first >= FIRST_NUMBER || isWithin(first, FIRST_NAME, FIRST_NAME + NAMES - 1)) {
                putItem(first);
                next++;
                return true;
            }
            if ((first != '-' && first != '(') || open >= MOST_OPEN) {
                return false;
            }
            next++;
            if (first == '-') {
                return readNegative(open + 1);
            }
            return readJoined(ORS, open + 1) && readToken(')');
        }

        private boolean readNegative(int open) {
            if (!readOne(open)) {
                return false;
            }
            putItem(NEGATIVE);
            return true;
        }

        private void putItem(int item) {
            if (isWithin(used, 0, items.length - 1)) {
                items[used] = item;
                used++;
            }
        }

        // -- scanning bytes

        private void scan() {
            scanned = 0;
            boolean goesOn = true;
            for (int i = 0; goesOn && i < tokens.length && i < places.length; i++) {
                skipBlanks();
                places[i] = scanned;
                tokens[i] = takeToken();
                goesOn = tokens[i] != END && tokens[i] != WRONG;
            }
        }

        private void skipBlanks() {
            while (scanned < size && (byteAt(scanned) == ' ' || byteAt(scanned) == '\n')) {
                scanned++;
            }
        }

        private int takeToken() {
            int from = scanned;
            if (from >= size) {
                return END;
            }
            int first = byteAt(from);
            scanned++;
            if (isLetter(first)) {
                return takeWord(from);
            }
            if (isDigit(first)) {
                return takeNumber(from);
            }
            return isMark(first) ? first : WRONG;
        }

        private int takeWord(int from) {
            while (scanned < size && isLetter(byteAt(scanned))) {
                scanned++;
            }
            int word = 0;
            int start = 0;
            for (int i = 0; i < WORDS.length(); i++) {
                if (WORDS.charAt(i) == ' ') {
                    if (i - start == scanned - from && isSpelt(from, start, i)) {
                        return word;
                    }
                    word++;
                    start = i + 1;
                }
            }
            return WRONG;
        }

        /** Whether bytes from a place on are what stands in WORDS there. */
        private boolean isSpelt(int from, int start, int end) {
            for (int i = start; i >= 0 && i < end && i < WORDS.length(); i++) {
                if (WORDS.charAt(i) != byteAt(from + i - start)) {
                    return false;
                }
            }
            return true;
        }

        private int takeNumber(int from) {
            while (scanned < size && isDigit(byteAt(scanned))) {
                scanned++;
            }
            if (scanned - from > MOST_DIGITS) {
                return WRONG;
            }
            int number = 0;
            for (int i = from; i < scanned; i++) {
                number = 10 * number + byteAt(i) - '0';
            }
            return FIRST_NUMBER + number;
        }

        private int byteAt(int at) {
            return at >= 0 && at < size && at < bytes.length ? bytes[at] : 0;
        }

        private static boolean isLetter(int b) {
            return b >= 'a' && b <= 'z';
        }

        private static boolean isDigit(int b) {
            return b >= '0' && b <= '9';
        }

        private static boolean isMark(int b) {
            switch (b) {
                case '(':
                case ')':
                case ';':
                case '+':
                case '-':
                case '*':
                case '<':
                case '=':
                    return true;
                default:
                    return false;
            }
        }
    }

    // ---- sheets

    /** A row of numbers; its cells are made once, whatever it becomes. */
    private static final class Sheet {
        int sort = GONE;
        int size = 0;
        final int[] cells = new int[MOST_CELLS];

        boolean isMissing() {
            return sort == GONE;
        }

        void become(int newSort, int newSize) {
            sort = newSort;
            size = Math.max(0, Math.min(newSize, cells.length));
            Arrays.fill(cells, 0);
        }

        /** Whether n numbers stand here from a place on. */
        boolean hasStretch(int at, int n) {
            return at >= 0 && n >= 0 && n <= size && at <= size - n;
        }

        int get(int i) {
            return i >= 0 && i < size && i < cells.length ? cells[i] : 0;
        }

        void set(int i, int v) {
            if (i >= 0 && i < size && i < cells.length) {
                cells[i] = sort == BYTES ? (byte) v : sort == SHORTS ? (short) v : v;
            }
        }
    }
}
