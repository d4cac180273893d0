import java.util.Random;

/** Texts by lot for the tape: most are texts, others have one thing wrong. */
final class Texts {
    private static final int MOST_BYTES = 160;
    private static final String[] NAMES = {"card", "row", "column", "back", "many", "fails"};
    private static final String[] PIECES = {"turns", "swaps", "looks", "or", "and", "not", "card", "row", "column", "back",
        "many", "fails", "(", ")", ";", "+", "-", "*", "<", "=", "0", "7", "99", "9999", "10000", "00000", "x", "cards",
        "A", "!", "\t", "/", ",", "nota", "no", "{", "\u00e9", "\u0000", " ", "\n"};

    private Texts() {
    }

    static String byLot(Random lot) {
        String text = "";
        for (int tries = 0; tries < 50; tries++) {
            text = "turns" + gap(lot) + either(lot, 0) + gap(lot) + ";" + gap(lot) + "swaps" + gap(lot) + either(lot, 0)
                + ";" + gap(lot) + "looks" + gap(lot) + either(lot, 0) + gap(lot) + ";" + (lot.nextInt(3) == 0 ? " \n" : "");
            if (text.length() <= MOST_BYTES) {
                break;
            }
        }
        text = text.substring(0, Math.min(MOST_BYTES, text.length()));
        String changed = lot.nextInt(3) == 0 ? text : changed(text, lot);
        return changed.length() > MOST_BYTES || changed.isEmpty() ? text : changed;
    }

    private static String changed(String text, Random lot) {
        int at = lot.nextInt(text.length());
        String piece = PIECES[lot.nextInt(PIECES.length)];
        return switch (lot.nextInt(5)) {
            case 0 -> text.substring(0, at);
            case 1 -> text.substring(0, at) + text.substring(at + 1);
            case 2 -> text.substring(0, at) + piece + text.substring(at);
            case 3 -> text.substring(0, at) + " " + piece + " " + text.substring(at);
            default -> text + piece;
        };
    }

    private static String gap(Random lot) {
        return switch (lot.nextInt(6)) {
            case 0 -> "\n";
            case 1 -> "  ";
            default -> " ";
        };
    }

    private static String either(Random lot, int depth) {
        String text = both(lot, depth);
        while (lot.nextInt(6) == 0) {
            text += gap(lot) + "or" + gap(lot) + both(lot, depth);
        }
        return text;
    }

    private static String both(Random lot, int depth) {
        String text = not(lot, depth);
        while (lot.nextInt(6) == 0) {
            text += gap(lot) + "and" + gap(lot) + not(lot, depth);
        }
        return text;
    }

    private static String not(Random lot, int depth) {
        if (depth < 6 && lot.nextInt(6) == 0) {
            return "not" + gap(lot) + not(lot, depth + 1);
        }
        String text = sum(lot, depth);
        if (lot.nextInt(4) == 0) {
            text += (lot.nextBoolean() ? "<" : " = ") + sum(lot, depth);
        }
        return text;
    }

    private static String sum(Random lot, int depth) {
        String text = term(lot, depth);
        while (lot.nextInt(4) == 0) {
            text += (lot.nextBoolean() ? " + " : "-") + term(lot, depth);
        }
        return text;
    }

    private static String term(Random lot, int depth) {
        String text = one(lot, depth);
        while (lot.nextInt(5) == 0) {
            text += (lot.nextBoolean() ? "*" : " * ") + one(lot, depth);
        }
        return text;
    }

    private static String one(Random lot, int depth) {
        int which = lot.nextInt(10);
        if (depth < 6 && which == 0) {
            return "-" + one(lot, depth + 1);
        }
        if (depth < 6 && which <= 2) {
            return "(" + either(lot, depth + 1) + ")";
        }
        if (which <= 5) {
            return "" + (which == 3 ? lot.nextInt(10000) : lot.nextInt(12));
        }
        return NAMES[lot.nextInt(NAMES.length)];
    }
}
