/** Counts answers that are not as due, and tells them. */
final class Check {
    private int wrong = 0;
    private int asked = 0;

    void due(String what, long got, long want) {
        asked++;
        if (got != want) {
            wrong++;
            System.out.println(what + " answered " + got + ", due is " + want);
        }
    }

    void due(String what, String got, String want) {
        asked++;
        if (!got.equals(want)) {
            wrong++;
            System.out.println(what + " answered " + got + ", due is " + want);
        }
    }

    /** Ends the program, with exit code 1 if something was wrong. */
    void end() {
        System.out.println(asked + " answers, " + wrong + " of them not as due");
        if (wrong != 0 || asked == 0) {
            System.exit(1);
        }
    }

    static String shown(ClassPools x) {
        StringBuilder s = new StringBuilder();
        int b = x.out(0);
        for (int i = 1; b != ClassPools.NONE; i++) {
            s.append((char) b);
            b = x.out(i);
        }
        return s.toString();
    }

    static byte[] shownBytes(ClassPools x) {
        return Made.bytesOf(shown(x));
    }

    static String thrown(ClassPools x, int file, int i) {
        try {
            return Long.toString(x.number(file, i));
        } catch (IllegalArgumentException | IndexOutOfBoundsException | NullPointerException | ClassCastException e) {
            return e.getClass().getSimpleName();
        }
    }
}
