import java.math.BigInteger;
import java.util.ArrayDeque;
import java.util.ArrayList;
import java.util.Arrays;
import java.util.Collections;
import java.util.Deque;
import java.util.HashSet;
import java.util.List;
import java.util.Map;
import java.util.Set;
import java.util.TreeMap;

/**
 * The document once more, written slowly and in another way than the class: a
 * list of booleans for the cards, every set tried, texts read by a stack of
 * open signs. ModelTest compares the two.
 */
final class Model {
    private static final int NONE = -1, BAD = -2, STATE = -3, FULL = -4;
    private static final long NO = -4611686018427387904L;

    private record Kept(int width, List<Boolean> cards, int heaps, int law) {
    }

    private List<Boolean> cards = faces(9);
    private int width = 3;
    private final List<int[]> heaps = new ArrayList<>();
    private final List<String> texts = new ArrayList<>(List.of("turns 10 ; swaps 5 ; looks 1 + many ;"));
    private int law = 0;
    private final StringBuilder tape = new StringBuilder();
    private Kept kept = null;
    private final Object[] sheets = new Object[4];

    private static List<Boolean> faces(int n) {
        return new ArrayList<>(Collections.nCopies(n, false));
    }

    // ---- signs, as the document's list of kinds says them

    private boolean isIn(int[] heap, int card) {
        boolean isMember = (heap[1] >> card) % 2 == 1;
        boolean hasFigure = card / (int) Math.pow(2, heap[2] % 4) % 2 == 1;
        return switch (heap[0]) {
            case 0, 4 -> isMember;
            case 1 -> card / width == heap[2];
            case 2 -> hasFigure;
            case 3 -> card % width == heap[2];
            default -> isMember ^ hasFigure;
        };
    }

    private int sign(int[] heap, List<Boolean> lie) {
        int weight = 0;
        for (int c = 0; c < lie.size(); c++) {
            if (lie.get(c) && isIn(heap, c)) {
                weight += heap[0] == 4 ? c + 1 : 1;
            }
        }
        return switch (heap[0]) {
            case 4 -> weight % (heap[2] + 2);
            case 5 -> 1 - weight % 2;
            default -> weight % 2;
        };
    }

    private List<Integer> signsOf(List<Boolean> lie) {
        List<Integer> signs = new ArrayList<>();
        for (int[] heap : heaps) {
            signs.add(sign(heap, lie));
        }
        return signs;
    }

    private static int packed(List<Integer> signs) {
        int number = 0;
        for (int h = signs.size() - 1; h >= 0; h--) {
            number = number * 16 + signs.get(h);
        }
        return number;
    }

    private boolean allHold(List<Boolean> lie) {
        return signsOf(lie).stream().allMatch(sign -> sign == 0);
    }

    private List<Boolean> turned(List<Boolean> lie, int set) {
        List<Boolean> other = new ArrayList<>(lie);
        for (int c = 0; c < other.size(); c++) {
            if ((set >> c & 1) == 1) {
                other.set(c, !other.get(c));
            }
        }
        return other;
    }

    private List<Boolean> changedAbout(int a, int b) {
        List<Boolean> other = new ArrayList<>(cards);
        Collections.swap(other, a, b);
        return other;
    }

    private static int bits(List<Boolean> lie) {
        int set = 0;
        for (int c = lie.size() - 1; c >= 0; c--) {
            set = set * 2 + (lie.get(c) ? 1 : 0);
        }
        return set;
    }

    private int sets() {
        return (int) Math.pow(2, cards.size());
    }

    private boolean noSet(int set) {
        return set < 0 || set >= sets();
    }

    private boolean noCard(int c) {
        return c < 0 || c >= cards.size();
    }

    // ---- the table, the law

    public int table(int n, int w) {
        if (n < 1 || n > 12 || w < 1 || w > 12) {
            return BAD;
        }
        int were = cards.size();
        cards = faces(n);
        width = w;
        return were;
    }

    public int turn(int set) {
        if (noSet(set)) {
            return BAD;
        }
        cards = turned(cards, set);
        return bits(cards);
    }

    public int swap(int a, int b) {
        if (noCard(a) || noCard(b) || a == b) {
            return -5;
        }
        boolean unlike = cards.get(a) != cards.get(b);
        cards = changedAbout(a, b);
        return unlike ? 1 : 0;
    }

    public int count(int what) {
        int[] all = {cards.size(), width, bits(cards), heaps.size(), texts.size(), law, tape.length()};
        return what < 0 || what > 6 ? BAD : all[what];
    }

    public int feed(int n, int a, int b, int c, int d, int e) {
        int[] five = {a, b, c, d, e};
        if (n < 1 || n > 5 || Arrays.stream(five).anyMatch(x -> x < 0 || x > 255)) {
            return BAD;
        }
        if (tape.length() + n > 160) {
            return FULL;
        }
        for (int i = 0; i < n; i++) {
            tape.append((char) five[i]);
        }
        return tape.length();
    }

    public int text() {
        if (texts.size() == 6) {
            return FULL;
        }
        String text = tape.toString();
        tape.setLength(0);
        int fault = faultOf(text);
        if (fault >= 0) {
            return -100 - fault;
        }
        texts.add(text);
        return texts.size() - 1;
    }

    public int force(int t) {
        if (t < 0 || t >= texts.size()) {
            return BAD;
        }
        int was = law;
        law = t;
        return was;
    }

    public int asks(int part, int c) {
        if (noCard(c)) {
            return -5;
        }
        return part < 0 || part > 2 ? -7 : says(part, c);
    }

    // ---- texts

    private record Token(String text, int place) {
    }

    /** All tokens; one that is none has the text "?". The last one is "". */
    private static List<Token> tokens(String text) {
        List<Token> all = new ArrayList<>();
        int i = 0;
        while (i < text.length()) {
            char c = text.charAt(i);
            int from = i;
            i++;
            if (c == ' ' || c == '\n') {
                continue;
            }
            String token = "" + c;
            if (c >= 'a' && c <= 'z') {
                while (i < text.length() && text.charAt(i) >= 'a' && text.charAt(i) <= 'z') {
                    i++;
                }
                token = text.substring(from, i);
                boolean isKnown = List.of("turns", "swaps", "looks", "or", "and", "not", "card", "row", "column", "back",
                    "many", "fails").contains(token);
                token = isKnown ? token : "?";
            } else if (c >= '0' && c <= '9') {
                while (i < text.length() && text.charAt(i) >= '0' && text.charAt(i) <= '9') {
                    i++;
                }
                token = i - from > 4 ? "?" : text.substring(from, i);
            } else if ("();+-*<=".indexOf(c) < 0) {
                token = "?";
            }
            all.add(new Token(token, from));
        }
        all.add(new Token("", text.length()));
        return all;
    }

    private static boolean isOperand(String token) {
        return !token.isEmpty() && Character.isDigit(token.charAt(0))
            || List.of("card", "row", "column", "back", "many", "fails").contains(token);
    }

    /** The place of the fault, -1 if there is none: one walk, a stack of what is open. */
    private static int faultOf(String text) {
        List<Token> all = tokens(text);
        int at = 0;
        for (String key : List.of("turns", "swaps", "looks")) {
            if (!all.get(at).text.equals(key)) {
                return all.get(at).place;
            }
            at++;
            Deque<String> open = new ArrayDeque<>();
            // for each bracket that is open, and the whole: whether a comparison stands in this NOT
            Deque<Boolean> compared = new ArrayDeque<>(List.of(false));
            boolean wantsOperand = true;
            boolean mayNot = true;
            boolean isOpen = true;
            while (isOpen) {
                Token token = all.get(at);
                String t = token.text;
                if (wantsOperand) {
                    boolean opens = t.equals("(") || t.equals("-") || t.equals("not") && mayNot;
                    if (opens && open.size() < 5) {
                        open.push(t);
                        mayNot = !t.equals("-");
                        if (t.equals("(")) {
                            compared.push(false);
                        }
                    } else if (isOperand(t)) {
                        wantsOperand = false;
                        closeAll(open, "-");
                    } else {
                        return token.place;
                    }
                } else if (List.of("*", "+", "-").contains(t)) {
                    wantsOperand = true;
                    mayNot = false;
                } else if ((t.equals("<") || t.equals("=")) && !compared.peek()) {
                    compared.pop();
                    compared.push(true);
                    wantsOperand = true;
                    mayNot = false;
                } else if (t.equals("and") || t.equals("or")) {
                    closeAll(open, "not");
                    compared.pop();
                    compared.push(false);
                    wantsOperand = true;
                    mayNot = true;
                } else if (t.equals(")")) {
                    closeAll(open, "not");
                    if (open.isEmpty()) {
                        return token.place;
                    }
                    open.pop();
                    compared.pop();
                    closeAll(open, "-");
                } else if (t.equals(";")) {
                    closeAll(open, "not");
                    if (!open.isEmpty()) {
                        return token.place;
                    }
                    isOpen = false;
                } else {
                    return token.place;
                }
                at++;
            }
        }
        return all.get(at).text.isEmpty() ? -1 : all.get(at).place;
    }

    private static void closeAll(Deque<String> open, String sign) {
        while (!open.isEmpty() && open.peek().equals(sign)) {
            open.pop();
        }
    }

    private int says(int part, int card) {
        List<String> tokens = new ArrayList<>();
        for (Token token : tokens(texts.get(law))) {
            tokens.add(token.text);
        }
        for (int p = 0; p < part; p++) {
            tokens = tokens.subList(tokens.indexOf(";") + 1, tokens.size());
        }
        List<String> expression = tokens.subList(1, tokens.indexOf(";"));
        int fails = (int) signsOf(cards).stream().filter(sign -> sign != 0).count();
        Map<String, Integer> names = new TreeMap<>(Map.of("card", card, "row", card / width, "column", card % width,
            "back", cards.get(card) ? 1 : 0, "many", cards.size(), "fails", fails));
        int value = value(expression, names);
        return value < 0 ? 0 : value > 99 ? 99 : value;
    }

    private static int value(List<String> tokens, Map<String, Integer> names) {
        Deque<BigInteger> numbers = new ArrayDeque<>();
        Deque<String> waiting = new ArrayDeque<>();
        boolean wantsOperand = true;
        for (String token : tokens) {
            if (wantsOperand && (token.equals("(") || token.equals("not"))) {
                waiting.push(token);
            } else if (wantsOperand && token.equals("-")) {
                waiting.push("negative");
            } else if (wantsOperand) {
                numbers.push(BigInteger.valueOf(names.containsKey(token) ? names.get(token) : Integer.parseInt(token)));
                wantsOperand = false;
            } else if (token.equals(")")) {
                while (!waiting.peek().equals("(")) {
                    apply(waiting.pop(), numbers);
                }
                waiting.pop();
            } else {
                while (!waiting.isEmpty() && !waiting.peek().equals("(") && rank(waiting.peek()) >= rank(token)) {
                    apply(waiting.pop(), numbers);
                }
                waiting.push(token);
                wantsOperand = true;
            }
        }
        while (!waiting.isEmpty()) {
            apply(waiting.pop(), numbers);
        }
        return numbers.pop().intValue();
    }

    private static int rank(String sign) {
        return switch (sign) {
            case "or" -> 1;
            case "and" -> 2;
            case "not" -> 3;
            case "<", "=" -> 4;
            case "+", "-" -> 5;
            case "*" -> 6;
            default -> 7;
        };
    }

    private static void apply(String sign, Deque<BigInteger> numbers) {
        BigInteger right = numbers.pop();
        boolean isOf2 = !sign.equals("not") && !sign.equals("negative");
        BigInteger left = isOf2 ? numbers.pop() : BigInteger.ZERO;
        BigInteger answer = switch (sign) {
            case "or" -> truth(left.signum() != 0 || right.signum() != 0);
            case "and" -> truth(left.signum() != 0 && right.signum() != 0);
            case "not" -> truth(right.signum() == 0);
            case "<" -> truth(left.compareTo(right) < 0);
            case "=" -> truth(left.equals(right));
            case "+" -> left.add(right);
            case "*" -> left.multiply(right);
            default -> left.subtract(right);
        };
        numbers.push(BigInteger.valueOf(answer.intValue()));
    }

    private static BigInteger truth(boolean isSo) {
        return isSo ? BigInteger.ONE : BigInteger.ZERO;
    }

    // ---- heaps, signs

    public int heap(int kind, int members, int more) {
        if (kind < 0 || kind > 5 || members < 0 || members > 4095 || more < 0 || more > 9) {
            return BAD;
        }
        if (heaps.size() == 7) {
            return FULL;
        }
        heaps.add(new int[] {kind, members, more});
        return heaps.size() - 1;
    }

    public int drop() {
        if (heaps.isEmpty()) {
            return STATE;
        }
        if (kept != null && kept.heaps == heaps.size()) {
            kept = null;
        }
        heaps.remove(heaps.size() - 1);
        return heaps.size();
    }

    public int told(int h, int what) {
        if (h < 0 || h >= heaps.size()) {
            return -5;
        }
        if (what < 0 || what > 4) {
            return -7;
        }
        int[] heap = heaps.get(h);
        if (what == 3) {
            List<Boolean> in = new ArrayList<>();
            for (int c = 0; c < cards.size(); c++) {
                in.add(isIn(heap, c));
            }
            return bits(in);
        }
        return what == 4 ? sign(heap, cards) : heap[what];
    }

    public int signs(int what) {
        List<Integer> signs = signsOf(cards);
        List<Boolean> fail = new ArrayList<>();
        for (int sign : signs) {
            fail.add(sign != 0);
        }
        return switch (what) {
            case 0 -> packed(signs);
            case 1 -> bits(fail);
            case 2 -> Collections.frequency(fail, true);
            default -> BAD;
        };
    }

    public int look(int set) {
        return noSet(set) ? BAD : packed(signsOf(turned(cards, set)));
    }

    public int one() {
        return menders(cards);
    }

    private int menders(List<Boolean> lie) {
        List<Boolean> mends = new ArrayList<>();
        for (int c = 0; c < lie.size(); c++) {
            mends.add(allHold(turned(lie, 1 << c)));
        }
        return bits(mends);
    }

    public int two(int what) {
        List<Integer> twos = new ArrayList<>();
        for (int a = 0; a < cards.size(); a++) {
            for (int b = a + 1; b < cards.size(); b++) {
                if (allHold(turned(cards, 1 << a | 1 << b))) {
                    twos.add(100 * a + b);
                }
            }
        }
        return switch (what) {
            case 0 -> twos.size();
            case 1 -> twos.isEmpty() ? NONE : Collections.min(twos);
            default -> BAD;
        };
    }

    // ---- what can't be seen

    private boolean isUnseen(int set) {
        return signsOf(turned(cards, set)).equals(signsOf(cards));
    }

    public int counts(int k) {
        if (k < 0 || k > 12) {
            return BAD;
        }
        int found = 0;
        for (int set = 0; set < sets(); set++) {
            found += Integer.bitCount(set) == k && isUnseen(set) ? 1 : 0;
        }
        return found;
    }

    public int unseen(int what) {
        List<Integer> found = new ArrayList<>();
        for (int set = 1; set < sets(); set++) {
            if (isUnseen(set)) {
                found.add(set);
            }
        }
        return fewest(found, what, BAD);
    }

    private static int fewest(List<Integer> found, int what, int refusal) {
        if (what != 0 && what != 1) {
            return refusal;
        }
        found.sort((a, b) -> Integer.bitCount(a) != Integer.bitCount(b)
            ? Integer.bitCount(a) - Integer.bitCount(b) : a - b);
        if (found.isEmpty()) {
            return NONE;
        }
        return what == 0 ? Integer.bitCount(found.get(0)) : found.get(0);
    }

    public int apart(int what) {
        Map<Integer, Integer> first = new TreeMap<>();
        int least = NONE;
        for (int c = 0; c < cards.size(); c++) {
            int signs = packed(signsOf(turned(cards, 1 << c)));
            Integer before = first.putIfAbsent(signs, c);
            if (before != null && (least == NONE || 100 * before + c < least)) {
                least = 100 * before + c;
            }
        }
        return what == 0 ? first.size() : what == 1 ? least : BAD;
    }

    public int reach(int k) {
        if (k < 0 || k > 3) {
            return BAD;
        }
        Set<List<Integer>> found = new HashSet<>();
        for (int set = 0; set < sets(); set++) {
            if (Integer.bitCount(set) <= k) {
                found.add(signsOf(turned(cards, set)));
            }
        }
        return found.size();
    }

    private List<Integer> menderSets(int among, List<Integer> wanted) {
        List<Integer> found = new ArrayList<>();
        for (int set = 0; set < sets(); set++) {
            if ((set | among) == among && signsOf(turned(cards, set)).equals(wanted)) {
                found.add(set);
            }
        }
        return found;
    }

    public int lay(int set, int what) {
        return noSet(set) ? BAD : fewest(menderSets(set, Collections.nCopies(heaps.size(), 0)), what, -7);
    }

    public int even(int set) {
        int many = lay(set, 0);
        if (many >= 0) {
            cards = turned(cards, lay(set, 1));
        }
        return many;
    }

    public int needs(int n) {
        if (n < 0 || n > 9999) {
            return BAD;
        }
        int r = 0;
        while (Math.pow(2, r) < n + r + 1) {
            r++;
        }
        return r;
    }

    // ---- one coin

    public int can(int n) {
        if (n < 1 || n > 99999) {
            return BAD;
        }
        int left = n;
        while (left % 2 == 0) {
            left /= 2;
        }
        return left == 1 ? 1 : 0;
    }

    public int reads() {
        if (!List.of(1, 2, 4, 8).contains(cards.size())) {
            return STATE;
        }
        int all = 0;
        for (int c = 0; c < cards.size(); c++) {
            all = cards.get(c) ? all ^ c : all;
        }
        return all;
    }

    public int coin(int square) {
        if (noCard(square)) {
            return BAD;
        }
        if (reads() == STATE) {
            return STATE;
        }
        List<Boolean> were = cards;
        int found = -99;
        for (int c = 0; c < were.size(); c++) {
            cards = turned(were, 1 << c);
            found = reads() == square ? c : found;
        }
        cards = were;
        return found;
    }

    // ---- changed about, swept, cut, moved

    public int swaps(int what) {
        if (what < 0 || what > 2) {
            return BAD;
        }
        int found = 0;
        for (int c = 0; c + 1 < cards.size(); c++) {
            if (cards.get(c) != cards.get(c + 1)) {
                List<Boolean> lie = changedAbout(c, c + 1);
                boolean same = signsOf(lie).equals(signsOf(cards));
                boolean is = what == 0 ? same : what == 1 ? !same : allHold(lie);
                found += is ? 1 << c : 0;
            }
        }
        return found;
    }

    public int swept(int r, int what) {
        List<Integer> row = new ArrayList<>();
        for (int c = 0; c < cards.size(); c++) {
            if (c / width == r) {
                row.add(c);
            }
        }
        if (row.isEmpty()) {
            return -5;
        }
        if (what < 0 || what > 2) {
            return -7;
        }
        List<Integer> found = new ArrayList<>();
        for (int way = 0; way < 1 << row.size(); way++) {
            List<Boolean> lie = new ArrayList<>(cards);
            int shown = 0;
            for (int i = 0; i < row.size(); i++) {
                boolean shows = (way >> i & 1) == 1;
                lie.set(row.get(i), shows);
                shown |= shows ? 1 << row.get(i) : 0;
            }
            if (allHold(lie)) {
                found.add(shown);
            }
        }
        if (what == 0) {
            return found.size();
        }
        if (what == 1) {
            return found.isEmpty() ? NONE : Collections.min(found);
        }
        return found.size() == 1 && allHold(cards) ? 1 : 0;
    }

    private List<Boolean> cutAt(int n) {
        List<Boolean> lie = new ArrayList<>(cards.subList(n, cards.size()));
        lie.addAll(cards.subList(0, n));
        return lie;
    }

    public int cut(int n) {
        if (noCard(n)) {
            return BAD;
        }
        cards = cutAt(n);
        return bits(cards);
    }

    public int cuts(int what) {
        if (what < 0 || what > 2) {
            return BAD;
        }
        int found = 0;
        for (int n = 1; n < cards.size(); n++) {
            List<Boolean> lie = cutAt(n);
            boolean is = what == 0 ? signsOf(lie).equals(signsOf(cards)) : what == 1 ? allHold(lie) : lie.equals(cards);
            found += is ? 1 << n : 0;
        }
        return found;
    }

    private List<Boolean> movedTo(int a, int b) {
        List<Boolean> lie = new ArrayList<>(cards);
        boolean card = lie.remove(a);
        lie.add(b, card);
        return lie;
    }

    public int move(int a, int b) {
        if (noCard(a) || noCard(b)) {
            return -5;
        }
        cards = movedTo(a, b);
        return bits(cards);
    }

    public int moves(int what) {
        int[] found = {0, 0};
        for (int a = 0; a < cards.size(); a++) {
            for (int b = 0; b < cards.size(); b++) {
                List<Boolean> lie = movedTo(a, b);
                if (!signsOf(lie).equals(signsOf(cards))) {
                    found[0]++;
                } else if (!lie.equals(cards)) {
                    found[1]++;
                }
            }
        }
        return what == 0 || what == 1 ? found[what] : BAD;
    }

    // ---- what is likeliest

    private Map<Integer, Integer> ways() {
        Map<Integer, Integer> ways = new TreeMap<>();
        if (allHold(cards)) {
            ways.put(0, 100);
        }
        for (int c = 0; c < cards.size(); c++) {
            if (allHold(turned(cards, 1 << c))) {
                ways.put(1 + c, says(0, c));
            }
            if (c + 1 < cards.size() && cards.get(c) != cards.get(c + 1) && allHold(changedAbout(c, c + 1))) {
                ways.put(21 + c, says(1, c));
            }
        }
        ways.values().removeIf(weight -> weight <= 0);
        return ways;
    }

    public int likely(int what) {
        Map<Integer, Integer> ways = ways();
        int most = ways.isEmpty() ? 0 : Collections.max(ways.values());
        return switch (what) {
            case 0 -> ways.entrySet().stream().filter(e -> e.getValue() == most).map(Map.Entry::getKey).findFirst()
                .orElse(NONE);
            case 1 -> most;
            case 2 -> ways.values().stream().mapToInt(Integer::intValue).sum();
            default -> BAD;
        };
    }

    public long right(int part) {
        return likely(0) == NONE ? NO : lowest(likely(1), likely(2), part);
    }

    private static long lowest(int above, int below, int part) {
        int divisor = BigInteger.valueOf(above).gcd(BigInteger.valueOf(below)).intValue();
        return part == 0 ? above / divisor : part == 1 ? below / divisor : NO;
    }

    public int cheapest(int what) {
        int all = 0;
        int best = NONE;
        for (int c = cards.size() - 1; c >= 0; c--) {
            if ((one() >> c & 1) == 1) {
                all += says(2, c);
                best = best == NONE || says(2, c) <= says(2, best) ? c : best;
            }
        }
        return what == 0 ? best : what == 1 ? all : BAD;
    }

    public int lies() {
        int found = 0;
        for (int h = 0; h < heaps.size(); h++) {
            boolean is = false;
            for (int c = -1; c < cards.size(); c++) {
                List<Integer> signs = signsOf(c < 0 ? cards : turned(cards, 1 << c));
                signs.remove(h);
                is |= signs.stream().allMatch(sign -> sign == 0);
            }
            found += is ? 1 << h : 0;
        }
        return found;
    }

    public int idle() {
        int found = 0;
        List<Integer> now = signsOf(cards);
        boolean[] is = new boolean[heaps.size()];
        Arrays.fill(is, true);
        for (int set = 0; set < sets(); set++) {
            List<Integer> signs = signsOf(turned(cards, set));
            for (int h = 0; h < heaps.size(); h++) {
                List<Integer> others = new ArrayList<>(signs);
                others.set(h, now.get(h));
                is[h] &= !others.equals(now) || signs.get(h).equals(now.get(h));
            }
        }
        for (int h = 0; h < heaps.size(); h++) {
            found += is[h] ? 1 << h : 0;
        }
        return found;
    }

    // ---- told signs

    private static List<Integer> numbers(Object sheet) {
        List<Integer> all = new ArrayList<>();
        for (int i = 0; i < java.lang.reflect.Array.getLength(sheet); i++) {
            all.add(java.lang.reflect.Array.getInt(sheet, i));
        }
        return all;
    }

    private int refusal(int s) {
        if (s < 0 || s > 3) {
            return BAD;
        }
        if (sheets[s] == null) {
            return -11;
        }
        return numbers(sheets[s]).size() == heaps.size() ? 0 : BAD;
    }

    public int judge(int s) {
        if (refusal(s) != 0) {
            return refusal(s);
        }
        for (int h = 0; h < heaps.size(); h++) {
            if (sign(heaps.get(h), cards) != numbers(sheets[s]).get(h)) {
                return h;
            }
        }
        return NONE;
    }

    public int match(int s, int what) {
        if (refusal(s) != 0) {
            return refusal(s);
        }
        List<Integer> found = new ArrayList<>();
        for (int lie = 0; lie < sets(); lie++) {
            if (signsOf(turned(faces(cards.size()), lie)).equals(numbers(sheets[s]))) {
                found.add(lie);
            }
        }
        return switch (what) {
            case 0 -> found.size();
            case 1 -> found.isEmpty() ? NONE : found.get(0);
            case 2 -> found.stream().reduce((a, b) -> a & b).orElse(0);
            case 3 -> found.stream().reduce((a, b) -> a | b).orElse(0);
            default -> -7;
        };
    }

    public int tells(int s, int set, int what) {
        if (refusal(s) != 0) {
            return refusal(s);
        }
        return noSet(set) ? -7 : fewest(menderSets(set, numbers(sheets[s])), what, -7);
    }

    public int film(int s) {
        if (s < 0 || s > 3) {
            return BAD;
        }
        sheets[s] = signsOf(cards).stream().mapToInt(Integer::intValue).toArray();
        return heaps.size();
    }

    // ---- evenings

    private int lot(int seed) {
        BigInteger lot = BigInteger.valueOf(seed).add(BigInteger.ONE).multiply(BigInteger.valueOf(48271))
            .mod(BigInteger.valueOf(2147483647));
        return lot.mod(BigInteger.valueOf(cards.size())).intValue();
    }

    private boolean isFound(int seed) {
        return menders(turned(cards, 1 << lot(seed))) == 1 << lot(seed);
    }

    public int evening(int seed, int what) {
        if (seed < 0 || seed > 99999 || what < 0 || what > 1) {
            return BAD;
        }
        return what == 0 ? lot(seed) : isFound(seed) ? 1 : 0;
    }

    public long odds(int seed, int seeds, int part) {
        if (seed < 0 || seed > 99999 || seeds < 1 || seeds > 50) {
            return NO;
        }
        int found = 0;
        for (int i = 0; i < seeds; i++) {
            found += isFound(seed + i) ? 1 : 0;
        }
        return lowest(found, seeds, part);
    }

    public int image() {
        kept = new Kept(width, new ArrayList<>(cards), heaps.size(), law);
        return bits(cards);
    }

    public int back() {
        if (kept == null) {
            return STATE;
        }
        width = kept.width;
        cards = new ArrayList<>(kept.cards);
        law = kept.law;
        heaps.subList(kept.heaps, heaps.size()).clear();
        return bits(cards);
    }

    // ---- the host: true rows of Java's own, and what the machine says of them

    public int sheet(int s, int sort, int n) {
        if (s < 0 || s > 3 || sort < -1 || sort > 2 || sort != -1 && n > 40) {
            return BAD;
        }
        if (sort != -1 && n < 0) {
            return -14;
        }
        sheets[s] = switch (sort) {
            case 0 -> new byte[n];
            case 1 -> new short[n];
            case 2 -> new int[n];
            default -> null;
        };
        return 1;
    }

    public int cell(int s, int i, int v) {
        if (s < 0 || s > 3) {
            return BAD;
        }
        try {
            if (sheets[s] instanceof byte[] bytes) {
                bytes[i] = (byte) v;
            } else if (sheets[s] instanceof short[] shorts) {
                shorts[i] = (short) v;
            } else {
                ((int[]) sheets[s])[i] = v;
            }
            return 1;
        } catch (NullPointerException e) {
            return -11;
        } catch (ArrayIndexOutOfBoundsException e) {
            return -12;
        }
    }

    public int copy(int s, int i, int other, int j, int n) {
        if (s < 0 || s > 3 || other < 0 || other > 3) {
            return BAD;
        }
        try {
            System.arraycopy(sheets[s], i, sheets[other], j, n);
            return n;
        } catch (NullPointerException e) {
            return -11;
        } catch (ArrayStoreException e) {
            return -13;
        } catch (IndexOutOfBoundsException e) {
            return -12;
        }
    }

    public int heapsBy(int s, int sort, int at, int n) {
        if (s < 0 || s > 3 || sort < 0 || sort > 2 || n < 0 || n > 7) {
            return BAD;
        }
        if (sheets[s] == null) {
            return -11;
        }
        Class<?> type = List.of(byte[].class, short[].class, int[].class).get(sort);
        if (!type.isInstance(sheets[s])) {
            return -13;
        }
        int came = 0;
        for (int i = 0; i < n; i++) {
            List<Integer> all = numbers(sheets[s]);
            if (at < 0 || at + 3L * i + 3 > all.size()) {
                return -12;
            }
            came += heap(all.get(at + 3 * i), all.get(at + 3 * i + 1), all.get(at + 3 * i + 2)) >= 0 ? 1 : 0;
        }
        return came;
    }

    public int taken(int i, int kind) {
        if (kind < 0 || kind > 6) {
            return BAD;
        }
        if (i < 0 || i > 18) {
            return -12;
        }
        if (i < 12) {
            return i >= cards.size() ? -11 : kind < 6 ? -13 : cards.get(i) ? 1 : 0;
        }
        if (i - 12 >= heaps.size()) {
            return -11;
        }
        List<Set<Integer>> above = List.of(Set.of(0), Set.of(1, 0), Set.of(2, 0), Set.of(3, 1, 0), Set.of(4, 0),
            Set.of(5, 2, 0));
        return above.get(heaps.get(i - 12)[0]).contains(kind) ? i - 12 : -13;
    }
}
