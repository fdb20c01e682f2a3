/** The terms SORT, TYPE and SLOTS: each sentence that names a boundary, on both sides of it. */
public final class SortsTest {
    private static final int FIELD = 0, METHOD = 1, SORT = 10;

    private static final Check check = new Check();

    public static void main(String[] args) {
        letters();
        names();
        depth();
        methods();
        slots();
        check.end();
    }

    private static Made with(int kind, String sort) {
        Made m = Made.least("A");
        return m.member(kind, 0, 1, m.text(sort));
    }

    private static String brief(String sort) {
        return sort.length() > 30 ? sort.length() + " bytes" : sort;
    }

    private static void sort(int kind, String sort, boolean right) {
        Made m = with(kind, sort);
        String what = (kind == FIELD ? "field " : "method ") + brief(sort);
        if (right) {
            check.right(what, m.bytes());
        } else {
            check.fault(what, m.bytes(), SORT, m.countAt(1 + kind) + 2 + 4);
        }
    }

    /** A TYPE, wherever one may stand. */
    private static void type(String type, boolean right) {
        sort(FIELD, type, right);
        sort(METHOD, "()" + type, right);
        sort(METHOD, "(" + type + ")V", right);
        sort(METHOD, "(I" + type + ")V", right);
    }

    private static void letters() {
        check.of("Terms", "A SORT of a field is a TYPE: B C D F I J S Z");
        for (char c = 0; c < 256; c++) {
            boolean one = "BCDFIJSZ".indexOf(c) >= 0;
            sort(FIELD, "" + c, one);
            sort(METHOD, "(" + c + ")V", one);
            sort(FIELD, "I" + c, false);
            sort(FIELD, c + "I", c == '[');
        }
        sort(FIELD, "", false);
        sort(FIELD, "()V", false);
    }

    private static void names() {
        check.of("Terms", "L, one byte or more that are not ; , then ;");
        type("L;", false);
        for (char c = 0; c < 256; c++) {
            sort(FIELD, "L" + c + ";", c != ';');
            sort(FIELD, "LA" + c, c == ';');
            sort(FIELD, "LA;" + c, false);
        }
        type("LA;", true);
        type("LAB;", true);
        type("LL;", true);
        type("LI;", true);
        type("L();", true);
        type("L)V;", true);
        type("L[;", true);
        type("L" + "[".repeat(300) + ";", true);
        type("L" + "a".repeat(300) + ";", true);
        sort(FIELD, "L", false);
        sort(FIELD, "LA", false);
        sort(METHOD, "(L", false);
        sort(METHOD, "(LA)V", false);
        sort(METHOD, "(L)V;)V", true);
        type("LA;;", false);
        type("A;", false);
        sort(METHOD, "(L;)V", false);
        sort(METHOD, "(L;A;)V", false);
        sort(METHOD, "(LA;LB;)LC;", true);
    }

    private static void depth() {
        check.of("Terms", "or [ and a TYPE (255 [ at most)");
        for (int many : new int[] {1, 2, 254, 255, 256, 257, 300}) {
            type("[".repeat(many) + "I", many <= 255);
            type("[".repeat(many) + "LA;", many <= 255);
            type("[".repeat(many), false);
            sort(FIELD, "[".repeat(many) + "V", false);
        }
        type("[".repeat(255) + "L[[[[;", true);
        String half = "[".repeat(130) + "J";
        sort(METHOD, "(" + half + half + ")V", true);
        sort(METHOD, "(" + half + ")" + half, true);
        sort(METHOD, "(" + "[".repeat(255) + "I)" + "[".repeat(90) + "I", true);
        sort(METHOD, "(" + "[".repeat(90) + "I" + "[".repeat(255) + "I)V", true);
        sort(METHOD, "(" + "[".repeat(90) + "I" + "[".repeat(256) + "I)V", false);
        type("[V", false);
        type("[;", false);
        type("[L;", false);
        sort(FIELD, "I[", false);
        sort(FIELD, "[I[", false);
    }

    private static void methods() {
        check.of("Terms", "Of a method: ( TYPES ) and a TYPE or V");
        for (char c = 0; c < 256; c++) {
            sort(METHOD, "()" + c, "BCDFIJSZV".indexOf(c) >= 0);
            sort(METHOD, c + ")V", c == '(');
            sort(METHOD, "(" + c + "V", c == ')');
            sort(METHOD, "()V" + c, false);
            sort(METHOD, c + "()V", false);
            sort(METHOD, "" + c, false);
        }
        for (String none : new String[] {"", "()", "(I)", "V", "I", "()II", "()VV", "()VI", "(V)V", "(IV)I", "(()V)V", "(I))V",
            "((I)V", "(I)()", "()(", "(", ")", "(I", "[()V", "()[", "()L", "()LA"}) {
            sort(METHOD, none, false);
        }
        for (String one : new String[] {"()V", "()I", "(I)V", "(II)I", "(BCDFIJSZ)V", "()LV;", "()[I", "([I[I)[LA;", "(LA;I)V"}) {
            sort(METHOD, one, true);
            sort(FIELD, one, false);
        }
    }

    private static void slots() {
        check.of("Terms", "SLOTS of a method: how many its TYPES take, J and D two each, others one");
        String[] sorts = {"()V", "()J", "()D", "(B)V", "(C)V", "(D)V", "(F)V", "(I)V", "(J)V", "(S)V", "(Z)V", "(LJ;)V", "(LDJ;)V",
            "([J)V", "([[D)V", "(JD)J", "(DIJ)V", "([JJ)V", "(LJ;J)V", "(J[J)V", "(BCDFIJSZ)V", "(L);)V", "(L)J;D)D"};
        int[] slots = {0, 0, 0, 1, 1, 2, 1, 1, 2, 1, 1, 1, 1, 1, 1, 4, 5, 3, 3, 3, 10, 1, 3};
        int[] types = {0, 0, 0, 1, 1, 1, 1, 1, 1, 1, 1, 1, 1, 1, 1, 2, 3, 2, 2, 2, 8, 1, 2};
        for (int i = 0; i < sorts.length; i++) {
            told(METHOD, sorts[i], slots[i], types[i]);
        }
        for (int many : new int[] {1, 127, 128, 255, 256, 350}) {
            told(METHOD, "(" + "J".repeat(many) + ")V", 2 * many, many);
            told(METHOD, "(" + "I".repeat(many) + ")V", many, many);
        }
        told(METHOD, "(" + "[".repeat(255) + "J)V", 1, 1);
        for (char c : "BCDFIJSZ".toCharArray()) {
            told(FIELD, "" + c, c == 'J' || c == 'D' ? 2 : 1, 0);
            told(FIELD, "[" + c, 1, 0);
        }
        told(FIELD, "LJ;", 1, 0);
        told(FIELD, "[".repeat(255) + "D", 1, 0);
    }

    private static void told(int kind, String sort, int slots, int types) {
        ClassPools x = check.with(with(kind, sort));
        check.due("slots of " + brief(sort), x.told(0, kind, 0, 2), slots);
        check.due("types of " + brief(sort), x.told(0, kind, 0, 3), types);
    }
}
