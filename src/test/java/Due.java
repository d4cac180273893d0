/** Compares answers with those that are due, and tells those that differ. */
final class Due {
    private static int wrong = 0;
    private static int asked = 0;

    private Due() {
    }

    static void due(String call, long got, long want) {
        asked++;
        if (got != want) {
            wrong++;
            System.out.println(call + " answered " + got + ", due is " + want);
        }
    }

    static void holds(String what, boolean isSo) {
        asked++;
        if (!isSo) {
            wrong++;
            System.out.println("not so: " + what);
        }
    }

    static void end() {
        System.out.println(wrong == 0 ? "all " + asked + " answers are as due" : wrong + " of " + asked + " answers are not as due");
        if (wrong != 0 || asked == 0) {
            System.exit(1);
        }
    }
}
