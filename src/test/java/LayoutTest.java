import java.util.Arrays;

/** How the bytes of a FILE stand: one that is written out by hand, part by part, and all that calls tell of it. */
public final class LayoutTest {
    private static final int NONE = ClassPools.NONE;

    private static final String HEAD = "CAFEBABE 0003 003D 0012";
    private static final String POOL = "01 0001 41, 07 0001, 01 0001 49, 01 0004 284A2956, 03 FFFFFFFE, 04 3F800000,"
        + " 05 0000000100000002, 06 8000000000000000, 08 0003, 0C 0001 0003, 09 0002 000C, 0A 0002 000C, 0B 0002 000C,"
        + " 01 0002 4F62, 07 0010";
    private static final String CLASSES = "8421 0002 0011, 0002 0011 0002";
    private static final String FIELDS = "0001: 0009 0001 0003 0001: 0010 00000003 616263";
    private static final String METHODS = "0002: 0401 0003 0004 0000, 0402 0001 0004 0002: 0001 00000000, 0003 00000001 FF";
    private static final String ATTRIBUTES = "0001: 0004 00000002 0102";

    private static final String POOL_IN_ORDER = "01 0004 284A2956, 01 0001 41, 01 0001 49, 01 0002 4F62, 03 FFFFFFFE, 04 3F800000,"
        + " 05 0000000100000002, 06 8000000000000000, 07 0002, 07 0004, 08 0003, 09 000B 0011, 0A 000B 0011, 0B 000B 0011,"
        + " 0C 0002 0003";
    private static final String BEHIND_IN_ORDER = "8421 000B 000C, 0002 000C 000B,"
        + " 0001: 0009 0002 0003 0001: 0004 00000003 616263,"
        + " 0002: 0401 0003 0001 0000, 0402 0002 0001 0002: 0002 00000000, 0003 00000001 FF,"
        + " 0001: 0001 00000002 0102";

    private static final Check check = new Check();

    private static void due(String what, long got, long want) {
        check.due(what, got, want);
    }

    public static void main(String[] args) {
        theFile();
        numbers();
        entries();
        classes();
        members();
        attributes();
        written();
        calls512();
        check.end();
    }

    private static byte[] bytes(String... parts) {
        String hex = String.join("", parts).replaceAll("[ ,:]", "");
        byte[] all = new byte[hex.length() / 2];
        for (int i = 0; i < all.length; i++) {
            all[i] = (byte) Integer.parseInt(hex.substring(2 * i, 2 * i + 2), 16);
        }
        return all;
    }

    private static byte[] byHand() {
        return bytes(HEAD, POOL, CLASSES, FIELDS, METHODS, ATTRIBUTES);
    }

    private static ClassPools read() {
        ClassPools x = new ClassPools();
        due("read", Made.read(x, byHand()), 0);
        due("place", x.place(), NONE);
        return x;
    }

    private static void theFile() {
        check.of("Terms", "A FILE: FOUR 0xCAFEBABE; TWO, TWO, its version; TWO n, and a POOL of places 1 .. n - 1;"
            + " TWO flags, TWO its class, TWO the class above it (0: none), TWO how many faces, TWO each;"
            + " TWO how many fields, the fields; TWO how many methods, the methods; TWO how many attributes, these;"
            + " nothing behind them.");
        ClassPools x = read();
        int[] dues = {byHand().length, 61 * 65536 + 3, 18, 0x8421, 2, 1, 2, 1};
        for (int what = 0; what < dues.length; what++) {
            due("file, " + what, x.file(0, what), dues[what]);
        }
        check.fault("one byte fewer", Made.longer(byHand(), -1), 1, byHand().length - 1);
        check.fault("one byte more", Made.longer(byHand(), 1), 6, byHand().length);
        check.right("each part at its least", bytes("CAFEBABE 0000 0000 0003, 01 0000, 07 0001, 0000 0002 0000, 0000 0000 0000 0000"));
    }

    private static void numbers() {
        check.of("Terms", "3 INT: FOUR; 4 FLOAT: FOUR, its bits; 5 LONG, 6 DOUBLE: EIGHT;");
        ClassPools x = read();
        due("INT", x.number(0, 5), -2);
        due("FLOAT", x.number(0, 6), 0x3F800000);
        due("LONG", x.number(0, 7), 0x100000002L);
        due("DOUBLE", x.number(0, 9), Long.MIN_VALUE);
    }

    private static void entries() {
        check.of("Terms", "An ENTRY of THE POOL begins with a TAG: 1 TEXT: TWO how many bytes, these; 3 INT: FOUR;"
            + " 4 FLOAT: FOUR, its bits; 5 LONG, 6 DOUBLE: EIGHT; they take two places, the second one is empty, as place 0 is;");
        ClassPools x = read();
        int[] tags = {0, 1, 7, 1, 1, 3, 4, 5, 0, 6, 0, 8, 12, 9, 10, 11, 1, 7};
        int[] first = {0, 0, 1, 0, 0, 0, 0, 0, 0, 0, 0, 3, 1, 2, 2, 2, 0, 16};
        int[] second = {0, 0, 0, 0, 0, 0, 0, 0, 0, 0, 0, 0, 3, 12, 12, 12, 0, 0};
        int[] bytes = {0, 1, 0, 1, 4, 0, 0, 0, 0, 0, 0, 0, 0, 0, 0, 0, 2, 0};
        for (int i = 0; i < tags.length; i++) {
            due("TAG of place " + i, x.entry(0, i, 0), tags[i]);
            due("first of place " + i, x.entry(0, i, 1), first[i]);
            due("second of place " + i, x.entry(0, i, 2), second[i]);
            due("bytes of place " + i, x.entry(0, i, 3), bytes[i]);
        }
        due("place n", x.entry(0, tags.length, 0), NONE);
        check.shows("a TEXT", x, x.text(0, 4, 0), "(J)V");
        check.shows("a CLASS", x, x.text(0, 17, 1), "Ob");
        check.shows("a STRING", x, x.text(0, 11, 2), "I");
    }

    private static void classes() {
        check.of("Terms", "TWO flags, TWO its class, TWO the class above it (0: none), TWO how many faces, TWO each;");
        ClassPools x = read();
        String[] names = {"A", "Ob", "Ob", "A"};
        for (int k = 0; k < names.length; k++) {
            check.shows("class " + k, x, x.member(0, 2, k, 0), names[k]);
        }
        due("behind the faces", x.member(0, 2, names.length, 0), NONE);
    }

    private static void member(ClassPools x, int kind, int k, String name, String sort, int... told) {
        String which = "kind " + kind + ", member " + k;
        check.shows(which + ", name", x, x.member(0, kind, k, 0), name);
        check.shows(which + ", sort", x, x.member(0, kind, k, 1), sort);
        for (int what = 0; what < told.length; what++) {
            due(which + ", told " + what, x.told(0, kind, k, what), told[what]);
        }
    }

    private static void members() {
        check.of("Terms", "A field, a method: TWO flags, TWO a name, TWO a sort (both TEXTS), TWO how many attributes, these.");
        ClassPools x = read();
        member(x, 0, 0, "A", "I", 9, 1, 1, 0);
        member(x, 1, 0, "I", "(J)V", 0x401, 0, 2, 1);
        member(x, 1, 1, "A", "(J)V", 0x402, 2, 2, 1);
    }

    private static void attribute(ClassPools x, int kind, int k, int a, String name, String bytes) {
        String which = "kind " + kind + ", member " + k + ", attribute " + a;
        check.shows(which + ", name", x, x.attribute(0, kind, k, a, 0), name);
        check.shows(which + ", bytes", x, x.attribute(0, kind, k, a, 1), bytes);
    }

    private static void attributes() {
        check.of("Terms", "An attribute: TWO a name (a TEXT), FOUR how many bytes, these.");
        ClassPools x = read();
        attribute(x, 0, 0, 0, "Ob", "abc");
        attribute(x, 1, 1, 0, "A", "");
        attribute(x, 1, 1, 1, "I", "\u00ff");
        attribute(x, 2, 0, 0, "(J)V", "\u0001\u0002");
    }

    private static void shown(String what, ClassPools x, int answer, byte[] want) {
        due(what, answer, want.length);
        check.due(what, Arrays.toString(Check.shownBytes(x)), Arrays.toString(want));
    }

    private static void written() {
        check.of("Promise 18", "OUT is a FILE: how = 0 as it was read, 1 IN ORDER: how many bytes.");
        ClassPools x = read();
        shown("as it was read", x, x.write(0, 0), byHand());
        shown("IN ORDER", x, x.write(0, 1), bytes(HEAD, POOL_IN_ORDER, BEHIND_IN_ORDER));
        due("THE TAPE is OUT", x.back(), byHand().length);
        due("read", x.read(), 1);
        due("alike IN MEANING", x.alike(0, 1), 1);
        shown("IN ORDER once more", x, x.write(1, 1), bytes(HEAD, POOL_IN_ORDER, BEHIND_IN_ORDER));
    }

    /** The calls that do most, up to the last one that is promised. */
    private static void calls512() {
        check.of("What it is", "An object is used for at most 512 calls after it has been made");
        ClassPools x = new ClassPools();
        int size = byHand().length;
        due("read", Made.read(x, byHand()), 0);
        int calls = (size + 7) / 8 + 1;
        for (; calls + 5 <= 512; calls += 5) {
            String behind = ", behind call " + calls;
            due("write" + behind, x.write(0, 1), size);
            due("back" + behind, x.back(), size);
            due("read" + behind, x.read(), 1);
            due("join" + behind, x.join(), 15);
            due("drop" + behind, x.drop(1), 1);
        }
        for (; calls < 512; calls++) {
            due("out, behind call " + calls, x.out(0), 0xCA);
        }
    }
}
