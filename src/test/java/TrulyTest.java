import java.math.BigInteger;
import java.util.ArrayList;
import java.util.Arrays;
import java.util.HashSet;
import java.util.List;
import java.util.Random;
import java.util.Set;
import java.util.function.IntPredicate;

/**
 * What a call says of what is only thought of is what comes, if it is truly
 * done: tables by lot (always the same ones) are laid again and again, CARDS
 * are truly turned, changed about, cut, moved there, and what is due is told by
 * SIGNS alone that are read then. Nothing here knows what a KIND is.
 */
public final class TrulyTest {
    private static final int TABLES = 160, MOST_CALLS = 512;
    private static final String[] LAWS = {
        "turns 30-card*2;swaps 9+row;looks 4+back+fails;", "turns card=3 or back;swaps column*7;looks many-card;",
        "turns fails*20;swaps 0;looks 99;", "turns 99+card;swaps 50 and not back;looks card*row-3;",
    };

    private final List<Script.Call> calls;
    private final int cards;
    private final int heaps;
    private final int backs;
    /** What SIGNS are, if a set of CARDS is truly turned; by sets. */
    private final int[] signsBy;
    private String promise = "";

    private TrulyTest(List<Script.Call> calls) {
        this.calls = calls;
        OneTurned x = again();
        cards = x.count(0);
        heaps = x.count(3);
        backs = x.count(2);
        signsBy = new int[1 << cards];
        for (int set = 0; set < signsBy.length; set++) {
            signsBy[set] = signsAfter("turn", set);
        }
    }

    public static void main(String[] args) {
        for (int table = 0; table < TABLES; table++) {
            TrulyTest test = new TrulyTest(byLot(new Random(7919L * table + 3), table));
            test.signs();
            test.turnedAlone();
            test.sets();
            test.layAndEven();
            test.coins();
            test.swaps();
            test.swept();
            test.cutAndMoved();
            test.ways();
            test.liesAndIdlers();
            test.toldSigns();
            test.evenings();
            test.imageAndBack();
            test.sheetsOfHeaps();
        }
        Due.end();
    }

    /** Small tables, mostly, so that heaps often hold; each eighth one is of twelve cards. */
    private static List<Script.Call> byLot(Random lot, int table) {
        int n = table % 8 == 7 ? 12 : 1 + lot.nextInt(8);
        List<Script.Call> calls = new ArrayList<>();
        calls.add(new Script.Call("table", n, 1 + lot.nextInt(12)));
        int many = lot.nextInt(8);
        for (int h = 0; h < many; h++) {
            calls.add(new Script.Call("heap", lot.nextInt(6), lot.nextInt(4096), lot.nextInt(10)));
        }
        String law = LAWS[lot.nextInt(LAWS.length)];
        for (char c : law.toCharArray()) {
            calls.add(new Script.Call("feed", 1, c, 0, 0, 0, 0));
        }
        calls.add(new Script.Call("text"));
        calls.add(new Script.Call("force", lot.nextInt(2)));
        calls.add(new Script.Call("turn", lot.nextInt(1 << n)));
        if (lot.nextBoolean()) {
            calls.add(new Script.Call("even", (1 << n) - 1));
        }
        if (lot.nextBoolean()) {
            calls.add(new Script.Call("turn", 1 << lot.nextInt(n)));
        }
        return calls;
    }

    // ---- how all is laid again, and what comes of a call there

    private OneTurned again() {
        OneTurned x = new OneTurned();
        for (Script.Call call : calls) {
            call.on(x);
        }
        return x;
    }

    private OneTurned after(String name, int... arguments) {
        OneTurned x = again();
        new Script.Call(name, arguments).on(x);
        return x;
    }

    private int signsAfter(String name, int... arguments) {
        return after(name, arguments).signs(0);
    }

    private void due(long want, String name, int... arguments) {
        Script.Call call = new Script.Call(name, arguments);
        dueOf(again(), want, call);
    }

    private void dueOf(OneTurned x, long want, Script.Call call) {
        long got = call.on(x);
        Due.due("promise " + promise + ": " + call + (got == want ? "" : ", after " + calls), got, want);
    }

    private int all() {
        return signsBy.length - 1;
    }

    private static int bit(int place) {
        return 1 << place;
    }

    private static int signOf(int signs, int h) {
        return (signs >> (4 * h)) & 15;
    }

    private int failing(int signs) {
        int failing = 0;
        for (int h = 0; h < heaps; h++) {
            failing |= signOf(signs, h) != 0 ? bit(h) : 0;
        }
        return failing;
    }

    /** Of sets that are parts of some CARDS that with the fewest, then the least; -1. */
    private int fewest(int of, int least, IntPredicate isSo) {
        for (int many = least; many <= cards; many++) {
            for (int set = 0; set <= all(); set++) {
                if ((set | of) == of && Integer.bitCount(set) == many && isSo.test(set)) {
                    return set;
                }
            }
        }
        return -1;
    }

    private static int many(int set) {
        return set < 0 ? -1 : Integer.bitCount(set);
    }

    private static long inLowest(long above, long below, int part) {
        long divisor = BigInteger.valueOf(above).gcd(BigInteger.valueOf(below)).longValue();
        return (part == 0 ? above : below) / divisor;
    }

    // ---- promise by promise

    private void signs() {
        OneTurned x = again();
        int asked = calls.size();
        for (int set = 0; set <= all(); set++) {
            if (asked == MOST_CALLS) {
                x = again();
                asked = calls.size();
            }
            promise = "14";
            dueOf(x, signsBy[set], new Script.Call("look", set));
            asked++;
        }
        for (int set : new int[] {0, 1, all(), all() / 3}) {
            promise = "13";
            int failing = failing(signsBy[set]);
            dueOf(after("turn", set), failing, new Script.Call("signs", 1));
            dueOf(after("turn", set), Integer.bitCount(failing), new Script.Call("signs", 2));
            promise = "12";
            for (int h = 0; h < heaps; h++) {
                dueOf(after("turn", set), signOf(signsBy[set], h), new Script.Call("told", h, 4));
            }
        }
    }

    private void turnedAlone() {
        int menders = 0;
        int twos = 0;
        int firstTwo = -1;
        int firstAlike = -1;
        Set<Integer> unlike = new HashSet<>();
        for (int a = cards - 1; a >= 0; a--) {
            menders |= signsBy[bit(a)] == 0 ? bit(a) : 0;
            unlike.add(signsBy[bit(a)]);
            for (int b = cards - 1; b > a; b--) {
                if (signsBy[bit(a) | bit(b)] == 0) {
                    twos++;
                    firstTwo = 100 * a + b;
                }
                firstAlike = signsBy[bit(a)] == signsBy[bit(b)] ? 100 * a + b : firstAlike;
            }
        }
        promise = "15";
        due(menders, "one");
        promise = "16";
        due(twos, "two", 0);
        due(firstTwo, "two", 1);
        promise = "19";
        due(unlike.size(), "apart", 0);
        due(firstAlike, "apart", 1);
    }

    private void sets() {
        int[] alike = new int[13];
        List<Set<Integer>> reached = List.of(new HashSet<>(), new HashSet<>(), new HashSet<>(), new HashSet<>());
        for (int set = 0; set <= all(); set++) {
            alike[Integer.bitCount(set)] += signsBy[set] == signsBy[0] ? 1 : 0;
            for (int k = Integer.bitCount(set); k <= 3; k++) {
                reached.get(k).add(signsBy[set]);
            }
        }
        promise = "17";
        for (int k = 0; k <= 12; k++) {
            due(alike[k], "counts", k);
        }
        promise = "18";
        int least = fewest(all(), 1, set -> signsBy[set] == signsBy[0]);
        due(many(least), "unseen", 0);
        due(least, "unseen", 1);
        promise = "20";
        for (int k = 0; k <= 3; k++) {
            due(reached.get(k).size(), "reach", k);
        }
    }

    private void layAndEven() {
        for (int of : new int[] {0, all(), all() / 2, all() / 3, all() - all() / 5}) {
            int set = fewest(of, 0, part -> signsBy[part] == 0);
            promise = "21";
            due(many(set), "lay", of, 0);
            due(set, "lay", of, 1);
            promise = "22";
            due(many(set), "even", of);
            OneTurned x = after("even", of);
            dueOf(x, set < 0 ? backs : backs ^ set, new Script.Call("count", 2));
            dueOf(x, set < 0 ? signsBy[0] : 0, new Script.Call("signs", 0));
        }
    }

    private void coins() {
        boolean areTwos = cards == 1 || cards == 2 || cards == 4 || cards == 8;
        int together = 0;
        for (int c = 0; c < cards; c++) {
            together ^= again().taken(c, 6) == 1 ? c : 0;
        }
        promise = "25";
        due(areTwos ? together : -3, "reads");
        promise = "26";
        for (int square = 0; square < cards; square++) {
            int coin = again().coin(square);
            if (areTwos) {
                dueOf(after("turn", bit(coin)), square, new Script.Call("reads"));
            } else {
                due(-3, "coin", square);
            }
        }
    }

    private void swaps() {
        int[] due = new int[3];
        for (int c = 0; c + 1 < cards; c++) {
            promise = "4";
            boolean areUnlike = again().taken(c, 6) != again().taken(c + 1, 6);
            due(areUnlike ? 1 : 0, "swap", c, c + 1);
            int signs = signsAfter("swap", c, c + 1);
            due[0] |= areUnlike && signs == signsBy[0] ? bit(c) : 0;
            due[1] |= areUnlike && signs != signsBy[0] ? bit(c) : 0;
            due[2] |= areUnlike && signs == 0 ? bit(c) : 0;
        }
        promise = "27";
        for (int what = 0; what < 3; what++) {
            due(due[what], "swaps", what);
        }
    }

    private void swept() {
        promise = "28";
        int wide = again().count(1);
        for (int row = 0; row * wide < cards; row++) {
            int inRow = 0;
            for (int c = row * wide; c < cards && c < (row + 1) * wide; c++) {
                inRow |= bit(c);
            }
            List<Integer> lies = new ArrayList<>();
            for (int lie = 0; lie <= all(); lie++) {
                if ((lie & ~inRow) == 0 && signsBy[(backs & inRow) ^ lie] == 0) {
                    lies.add(lie);
                }
            }
            due(lies.size(), "swept", row, 0);
            due(lies.isEmpty() ? -1 : lies.get(0), "swept", row, 1);
            due(lies.equals(List.of(backs & inRow)) ? 1 : 0, "swept", row, 2);
        }
        due(-5, "swept", (cards + wide - 1) / wide, 0);
    }

    private void cutAndMoved() {
        int[] cuts = new int[3];
        for (int n = 1; n < cards; n++) {
            OneTurned x = after("cut", n);
            cuts[0] |= x.signs(0) == signsBy[0] ? bit(n) : 0;
            cuts[1] |= x.signs(2) == 0 ? bit(n) : 0;
            cuts[2] |= x.count(2) == backs ? bit(n) : 0;
            promise = "29";
            dueOf(x, backs, new Script.Call("cut", cards - n));
        }
        promise = "30";
        for (int what = 0; what < 3; what++) {
            due(cuts[what], "cuts", what);
        }
        int changed = 0;
        int otherwise = 0;
        for (int a = 0; a < cards; a++) {
            for (int b = 0; b < cards; b++) {
                OneTurned x = after("move", a, b);
                boolean stay = x.signs(0) == signsBy[0];
                changed += stay ? 0 : 1;
                otherwise += stay && x.count(2) != backs ? 1 : 0;
                promise = "31";
                dueOf(x, backs, new Script.Call("move", b, a));
            }
        }
        promise = "32";
        due(changed, "moves", 0);
        due(otherwise, "moves", 1);
        promise = "29, 31";
        if (cards > 1) {
            due(after("move", 0, cards - 1).count(2), "cut", 1);
            due(after("move", cards - 1, 0).count(2), "cut", cards - 1);
        }
    }

    /** What was done is undone by doing it again: that is what is tried here. */
    private void ways() {
        int[] weights = new int[40];
        weights[0] = signsBy[0] == 0 ? 100 : 0;
        int cheapest = -1;
        int looks = 0;
        for (int c = 0; c < cards; c++) {
            if (signsAfter("turn", bit(c)) == 0) {
                weights[1 + c] = again().asks(0, c);
                cheapest = cheapest < 0 || again().asks(2, c) < again().asks(2, cheapest) ? c : cheapest;
                looks += again().asks(2, c);
            }
            if (again().swap(c, c + 1) == 1 && signsAfter("swap", c, c + 1) == 0) {
                weights[21 + c] = again().asks(1, c);
            }
        }
        int likeliest = -1;
        for (int way = 0; way < weights.length; way++) {
            likeliest = weights[way] > (likeliest < 0 ? 0 : weights[likeliest]) ? way : likeliest;
        }
        int together = Arrays.stream(weights).sum();
        promise = "33";
        due(likeliest, "likely", 0);
        due(likeliest < 0 ? 0 : weights[likeliest], "likely", 1);
        due(together, "likely", 2);
        promise = "34";
        for (int part = 0; part < 2; part++) {
            due(likeliest < 0 ? OneTurned.NO : inLowest(weights[likeliest], together, part), "right", part);
        }
        promise = "35";
        due(cheapest, "cheapest", 0);
        due(looks, "cheapest", 1);
    }

    private void liesAndIdlers() {
        int lying = 0;
        int idle = bit(heaps) - 1;
        for (int h = 0; h < heaps; h++) {
            for (int set = 0; set <= all(); set++) {
                if (Integer.bitCount(set) <= 1 && (failing(signsBy[set]) & ~bit(h)) == 0) {
                    lying |= bit(h);
                }
                int changed = signsBy[set] ^ signsBy[0];
                if (changed != 0 && (changed & ~(15 << (4 * h))) == 0) {
                    idle &= ~bit(h);
                }
            }
        }
        promise = "36";
        due(lying, "lies");
        promise = "37";
        due(idle, "idle");
    }

    /** A sheet is filmed, as some set of cards is truly turned; then they are turned again. */
    private void toldSigns() {
        for (int set : new int[] {0, 1, all(), all() / 3, all() - all() / 5}) {
            OneTurned x = after("turn", set);
            promise = "41";
            dueOf(x, heaps, new Script.Call("film", 2));
            promise = "38";
            dueOf(x, -1, new Script.Call("judge", 2));
            x.turn(set);
            int first = -1;
            for (int h = heaps - 1; h >= 0; h--) {
                first = signOf(signsBy[set], h) != signOf(signsBy[0], h) ? h : first;
            }
            dueOf(x, first, new Script.Call("judge", 2));
            promise = "39";
            int ways = 0;
            int least = -1;
            int inAll = all();
            int inAny = 0;
            for (int lie = all(); lie >= 0; lie--) {
                if (signsBy[backs ^ lie] == signsBy[set]) {
                    ways++;
                    least = lie;
                    inAll &= lie;
                    inAny |= lie;
                }
            }
            int[] due = {ways, least, inAll, inAny};
            for (int what = 0; what < 4; what++) {
                dueOf(x, due[what], new Script.Call("match", 2, what));
            }
            promise = "40";
            for (int of : new int[] {all(), set, all() / 2}) {
                int turned = fewest(of, 0, part -> signsBy[part] == signsBy[set]);
                dueOf(x, many(turned), new Script.Call("tells", 2, of, 0));
                dueOf(x, turned, new Script.Call("tells", 2, of, 1));
            }
        }
        promise = "38 to 40, of a SHEET that tells 0 of each";
        OneTurned x = after("sheet", 1, 0, heaps);
        dueOf(x, x.lay(all(), 0), new Script.Call("tells", 1, all(), 0));
        dueOf(x, x.lay(all(), 1), new Script.Call("tells", 1, all(), 1));
        dueOf(x, failing(signsBy[0]) == 0 ? -1 : Integer.numberOfTrailingZeros(failing(signsBy[0])), new Script.Call("judge", 1));
    }

    private void evenings() {
        for (int seed : new int[] {0, 1, 7, 44487, 99990, 99999}) {
            promise = "42";
            int card = again().evening(seed, 0);
            boolean isFound = after("turn", bit(card)).one() == bit(card);
            due(isFound ? 1 : 0, "evening", seed, 1);
        }
        promise = "43";
        int seeds = 23;
        int found = 0;
        for (int i = 0; i < seeds; i++) {
            found += again().evening(500 + i, 1);
        }
        due(inLowest(found, seeds, 0), "odds", 500, seeds, 0);
        due(inLowest(found, seeds, 1), "odds", 500, seeds, 1);
        due(again().evening(99999, 1), "odds", 99999, 1, 0);
    }

    /** Whatever is truly done since, what can be asked of the table is as it was. */
    private void imageAndBack() {
        promise = "44, 45";
        OneTurned x = again();
        dueOf(x, backs, new Script.Call("image"));
        x.force(1 - x.count(5));
        x.turn(all() / 3);
        x.cut(cards / 2);
        x.move(cards - 1, 0);
        x.heap(4, 4095, 3);
        x.even(all());
        x.table(12 - cards / 2, 2);
        x.heap(0, 1, 0);
        x.turn(3);
        dueOf(x, backs, new Script.Call("back"));
        OneTurned y = again();
        for (Script.Call call : asked()) {
            dueOf(x, call.on(y), call);
        }
    }

    private List<Script.Call> asked() {
        List<Script.Call> asked = new ArrayList<>();
        for (String name : new String[] {"signs", "two", "counts", "unseen", "apart", "reach", "swaps", "cuts", "moves", "likely",
            "right", "cheapest", "coin"}) {
            asked.add(new Script.Call(name, 0));
            asked.add(new Script.Call(name, 1));
        }
        for (String name : new String[] {"one", "reads", "lies", "idle"}) {
            asked.add(new Script.Call(name));
        }
        for (int what = 0; what < 7; what++) {
            asked.add(new Script.Call("count", what));
        }
        for (int h = 0; h <= 7; h++) {
            for (int what = 0; what < 5; what++) {
                asked.add(new Script.Call("told", h, what));
            }
        }
        for (int i = 0; i < 19; i++) {
            asked.add(new Script.Call("taken", i, i < 12 ? 6 : 0));
        }
        for (int c = 0; c < 12; c++) {
            asked.add(new Script.Call("asks", c % 3, c));
            asked.add(new Script.Call("swept", c, c % 3));
        }
        return asked;
    }

    /** The same heaps, brought by a sheet of ints, lie as those that heap() brought. */
    private void sheetsOfHeaps() {
        promise = "46 to 50";
        OneTurned y = again();
        OneTurned x = again();
        x.sheet(0, 2, 40);
        x.sheet(3, 2, 21);
        for (int h = 0; h < heaps; h++) {
            for (int what = 0; what < 3; what++) {
                dueOf(x, 1, new Script.Call("cell", 0, 7 + 3 * h + what, y.told(h, what)));
            }
        }
        dueOf(x, 3 * heaps, new Script.Call("copy", 0, 7, 3, 21 - 3 * heaps, 3 * heaps));
        for (int h = heaps - 1; h >= 0; h--) {
            dueOf(x, h, new Script.Call("drop"));
        }
        dueOf(x, heaps, new Script.Call("heapsBy", 3, 2, 21 - 3 * heaps, heaps));
        for (Script.Call call : asked()) {
            dueOf(x, call.on(y), call);
        }
        for (int h = 0; h < heaps; h++) {
            dueOf(x, h, new Script.Call("taken", 12 + h, y.told(h, 0)));
        }
    }
}
