import java.util.Arrays;

/** Promises 1 to 19: each sentence that names a boundary, on both sides of it. */
public final class EdgesTest {
    private static final int NONE = ClassPools.NONE, BAD = ClassPools.BAD, FULL = ClassPools.FULL;
    private static final int LOW = Integer.MIN_VALUE, HIGH = Integer.MAX_VALUE;
    /** Numbers that are below, or above, all that is told. */
    private static final int[] BELOW = {-1, -2, LOW + 1, LOW}, ABOVE = {1000, 65536, HIGH - 1, HIGH};

    private static final Check check = new Check();

    private static void due(String what, long got, long want) {
        check.due(what, got, want);
    }

    private static ClassPools with(Made... files) {
        return check.with(files);
    }

    public static void main(String[] args) {
        aNewObject();
        feedBytes();
        feedRoom();
        feedBad();
        readNumbers();
        readFull();
        readFaults();
        readEmpties();
        place();
        drop();
        file();
        version();
        entry();
        number();
        numberThrows();
        text();
        member();
        classes();
        told();
        attribute();
        attributeBytes();
        out();
        join();
        joined();
        meaning();
        alike();
        write();
        back();
        check.ofAllPromises();
        check.end();
    }

    private static int[] outside(int least, int most) {
        int[] all = Arrays.copyOf(BELOW, BELOW.length + ABOVE.length + 2);
        System.arraycopy(ABOVE, 0, all, BELOW.length, ABOVE.length);
        all[all.length - 2] = least - 1;
        all[all.length - 1] = most + 1;
        return all;
    }

    private static void fill(ClassPools x, int many) {
        Made.feed(x, new byte[many]);
    }

    private static void bytes(String what, ClassPools x, byte[] want) {
        check.due(what, Arrays.toString(Check.shownBytes(x)), Arrays.toString(want));
    }

    private static void aNewObject() {
        check.of("Promise 1", "No FILES; an empty tape, an empty OUT.");
        for (int i = 0; i < 7; i++) {
            ClassPools x = new ClassPools();
            due("file " + i, x.file(i, 0), NONE);
            due("drop " + i, x.drop(i), NONE);
            due("out " + i, x.out(i), NONE);
        }
        due("the first byte", new ClassPools().feed(0, 1), 1);
        due("400 bytes, the last 8 of them", fillAll(new ClassPools()), 400);
        due("OUT", new ClassPools().back(), 0);
        ClassPools x = new ClassPools();
        due("read of the tape", x.read(), -21);
        due("place", x.place(), 0);
        due("the first FILE", Made.least("A").read(x), 0);
        due("no JOINED", x.meaning(0, 0), NONE);
        due("join", new ClassPools().join(), 0);
    }

    private static int fillAll(ClassPools x) {
        return Made.feed(x, new byte[400]);
    }

    private static void feedBytes() {
        check.of("Promise 2", "The lowest n bytes of w, the highest of these first, come behind THE TAPE");
        byte[] bytes = Made.least("\u0000\u0001\u007f\u0080\u00ff").bytes();
        for (int n = 1; n <= 8; n++) {
            for (long above : new long[] {0, -1}) {
                ClassPools x = new ClassPools();
                for (int at = 0; at < bytes.length; at += n) {
                    int many = Math.min(n, bytes.length - at);
                    long w = above;
                    for (int i = 0; i < many; i++) {
                        w = w << 8 | bytes[at + i] & 255;
                    }
                    due("feed of " + many, x.feed(w, many), at + many);
                }
                due("read", x.read(), 0);
                x.write(0, 0);
                bytes("fed by " + n, x, bytes);
            }
        }
    }

    private static void feedRoom() {
        check.of("Promise 2", "(400 at most): how many it has");
        for (int n = 1; n <= 8; n++) {
            ClassPools fits = new ClassPools();
            fill(fits, 400 - n);
            due(n + " up to 400", fits.feed(0, n), 400);
            due("one behind 400", fits.feed(0, 1), FULL);
            due("eight behind 400", fits.feed(0, 8), FULL);
            ClassPools full = new ClassPools();
            fill(full, 401 - n);
            due(n + " up to 401", full.feed(0, n), FULL);
            if (n > 1) {
                due("the tape is as it was", full.feed(0, n - 1), 400);
            }
        }
        ClassPools x = new ClassPools();
        byte[] bytes = Made.least("A".repeat(370)).bytes();
        Made.feed(x, Arrays.copyOf(bytes, 399));
        due("two behind 399", x.feed(-1, 2), FULL);
        due("one behind 399", x.feed(bytes[399], 1), 400);
        due("one behind 400", x.feed(-1, 1), FULL);
        due("read of 400", x.read(), 0);
        due("bytes", x.file(0, 0), 400);
    }

    private static void feedBad() {
        check.of("Promise 2", "BAD: n is not 1 .. 8; FULL.");
        ClassPools x = new ClassPools();
        for (int n : outside(1, 8)) {
            due("feed of " + n, x.feed(-1, n), BAD);
        }
        due("feed of 0", x.feed(0, 0), BAD);
        due("feed of 9", x.feed(0, 9), BAD);
        due("feed of 1", x.feed(0, 1), 1);
        due("feed of 8", x.feed(0, 8), 9);
        fill(x, 391);
        for (int n : outside(1, 8)) {
            due("BAD ahead of FULL, " + n, x.feed(0, n), BAD);
        }
        due("FULL", x.feed(0, 1), FULL);
    }

    private static ClassPools six() {
        ClassPools x = new ClassPools();
        for (int i = 0; i < 6; i++) {
            due("file " + i, Made.least("A" + i).read(x), i);
        }
        return x;
    }

    private static void readNumbers() {
        check.of("Promise 3", "THE TAPE is a FILE: its number.");
        ClassPools x = six();
        due("drop", x.drop(0), 5);
        due("the number of the next one", Made.least("B").read(x), 5);
        due("drop", x.drop(5), 5);
        due("drop", x.drop(4), 4);
        due("the number of the next one", Made.least("C").read(x), 4);
        due("a fault takes no number", Made.read(x, new byte[] {1}), -22);
        due("the number behind a fault", Made.least("D").read(x), 5);
        check.shows("OUT is its class", x, x.member(5, 2, 0, 0), "D");
        check.shows("OUT is the class ahead", x, x.member(4, 2, 0, 0), "C");
    }

    private static void readFull() {
        check.of("Promise 3", "FULL: there are 6 (THE TAPE stays)");
        ClassPools x = six();
        due("an empty tape", x.read(), FULL);
        byte[] more = Made.least("More").bytes();
        Made.feed(x, more);
        due("a tape that is right", x.read(), FULL);
        due("once more", x.read(), FULL);
        due("place", x.place(), NONE);
        due("drop", x.drop(3), 5);
        due("the tape stayed", x.read(), 5);
        x.write(5, 0);
        bytes("the tape's bytes", x, more);
        due("one byte", x.feed(0xCB, 1), 1);
        due("FULL ahead of a FAULT", x.read(), FULL);
        due("place", x.place(), NONE);
        due("the tape stayed", x.feed(0, 1), 2);
        due("drop", x.drop(0), 5);
        due("the FAULT then", x.read(), -22);
        due("place then", x.place(), 0);
        due("the tape is empty then", x.feed(0, 1), 1);
    }

    /** Bytes with each of the ten faults. */
    private static byte[][] faults() {
        Made m = Made.least("A");
        m.attribute(Made.attribute(1, ""));
        byte[] bytes = m.bytes();
        int b = m.behind();
        return new byte[][] {
            Made.longer(bytes, -1), Made.changed(bytes, 0, 0xCAFF), Made.changed(bytes, 8, 62), Made.changed(bytes, 14, 0x0D00),
            Made.changed(bytes, b + 16, 0x8000), Made.longer(bytes, 1), Made.changed(bytes, b + 2, 0),
            Made.changed(bytes, b + 2, 3), Made.changed(bytes, b + 2, 1), fieldOf("A").bytes(),
        };
    }

    private static Made fieldOf(String sort) {
        Made m = Made.least("A");
        return m.member(0, 0, 1, m.text(sort));
    }

    private static int[] faultPlaces() {
        int b = Made.least("A").behind();
        return new int[] {b + 19, 1, 8, 14, b + 16, b + 20, b + 2, b + 2, b + 2, fieldOf("A").behind() + 14};
    }

    private static void readFaults() {
        check.of("Promise 3", "-20 less the FAULT.");
        byte[][] faults = faults();
        for (int i = 0; i < faults.length; i++) {
            due("fault " + (i + 1), Made.read(new ClassPools(), faults[i]), -21 - i);
        }
        due("none", fieldOf("I").read(new ClassPools()), 0);
    }

    private static void readEmpties() {
        check.of("Promise 3", "It is empty then, right or not.");
        for (byte[] fault : faults()) {
            ClassPools x = new ClassPools();
            Made.read(x, fault);
            due("not right", x.feed(0, 8), 8);
        }
        ClassPools x = with(Made.least("A"));
        due("right", x.read(), -21);
        due("place", x.place(), 0);
        due("right", Made.least("A").read(x), 1);
        due("one byte", x.feed(0, 1), 1);
    }

    private static void place() {
        check.of("Promise 4", "NONE: it had none, and before one.");
        ClassPools x = new ClassPools();
        due("before one", x.place(), NONE);
        x.feed(0, 1);
        due("before one, with a tape", x.place(), NONE);
        ClassPools y = with(Made.least("A"));
        due("it had none", y.place(), NONE);
        check.of("Promise 4", "The place of the FAULT of the latest read()");
        byte[][] faults = faults();
        int[] places = faultPlaces();
        for (int i = 0; i < faults.length; i++) {
            Made.read(y, faults[i]);
            due("fault " + (i + 1), y.place(), places[i]);
            due("once more", y.place(), places[i]);
        }
        y.feed(0, 8);
        y.join();
        y.write(0, 1);
        y.drop(0);
        y.back();
        due("ahead of the next read", y.place(), places[9]);
        due("read", y.read(), 0);
        due("it had none", y.place(), NONE);
        Made.read(y, faults[0]);
        due("the latest of several", y.place(), places[0]);
    }

    private static String name(ClassPools x, int file) {
        return x.member(file, 2, 0, 0) < 0 ? "none" : Check.shown(x);
    }

    private static void drop() {
        check.of("Promise 5", "A FILE goes; those behind it come one down: how many are left. NONE.");
        for (int gone = 0; gone < 6; gone++) {
            ClassPools x = six();
            due("drop " + gone, x.drop(gone), 5);
            for (int i = 0; i < 6; i++) {
                check.due("file " + i, name(x, i), i == 5 ? "none" : "A" + (i < gone ? i : i + 1));
            }
            due("drop of the sixth", x.drop(5), NONE);
        }
        ClassPools x = with(Made.least("A"), Made.least("B"));
        for (int file : outside(0, 1)) {
            due("drop of " + file, x.drop(file), NONE);
        }
        due("the last", x.drop(1), 1);
        due("the last that is gone", x.drop(1), NONE);
        check.due("the one that is left", name(x, 0), "A");
        due("the only one", x.drop(0), 0);
        due("of none", x.drop(0), NONE);
    }

    private static void file() {
        check.of("Promise 6", "2 places of THE POOL (n), 3 flags, 4 faces, 5 fields, 6 methods, 7 attributes. NONE; BAD.");
        Made high = Made.least("A");
        high.flags = 65535;
        ClassPools x = with(Made.rich(), high);
        int[][] dues = {{Made.rich().bytes().length, 61 * 65536 + 3, 24, 0x8421, 2, 2, 1, 2},
            {high.bytes().length, 52 * 65536, 3, 65535, 0, 0, 0, 0}};
        for (int what = 0; what < 8; what++) {
            due("file 0, " + what, x.file(0, what), dues[0][what]);
            due("file 1, " + what, x.file(1, what), dues[1][what]);
        }
        for (int what : outside(0, 7)) {
            due("what " + what, x.file(1, what), BAD);
        }
        for (int file : outside(0, 1)) {
            due("FILE " + file, x.file(file, 0), NONE);
            due("NONE ahead of BAD, FILE " + file, x.file(file, 8), NONE);
        }
        check.of("Promise 6", "Of a FILE: what = 0 how many bytes");
        due("the most bytes", with(Made.least("A".repeat(370))).file(0, 0), 400);
        due("few bytes", with(Made.least("")).file(0, 0), 30);
    }

    private static void version() {
        check.of("Promise 6", "1 its version (65536 times the second TWO, and the first one)");
        int[][] dues = {{0, 0, 0}, {1, 0, 1}, {65535, 0, 65535}, {0, 1, 65536}, {65535, 1, 131071}, {65535, 32767, HIGH},
            {0, 32768, LOW}, {65535, 65535, -1}};
        for (int[] d : dues) {
            Made m = Made.least("A");
            m.first = d[0];
            m.second = d[1];
            due(d[0] + " and " + d[1], with(m).file(0, 1), d[2]);
        }
    }

    private static void entry() {
        check.of("Promise 7", "Of place i of a POOL: what = 0 its TAG (0: empty), 1 the first, 2 the second place that it tells,"
            + " 3 how many bytes a TEXT has (0 where there is none such).");
        Made m = Made.least("");
        int named = m.pair(12, 1, 1);
        int[] at = {0, 1, 2, named, m.pair(9, 2, named), m.pair(10, 2, named), m.pair(11, 2, named), m.one(8, 1), m.text("abc"),
            m.four(3, 0x01010101), m.four(4, 0x01010101), m.eight(5, 0x0101010101010101L), 12, m.eight(6, -1), 14};
        int[][] dues = {{0, 0, 0, 0}, {1, 0, 0, 0}, {7, 1, 0, 0}, {12, 1, 1, 0}, {9, 2, 3, 0}, {10, 2, 3, 0}, {11, 2, 3, 0},
            {8, 1, 0, 0}, {1, 0, 0, 3}, {3, 0, 0, 0}, {4, 0, 0, 0}, {5, 0, 0, 0}, {0, 0, 0, 0}, {6, 0, 0, 0}, {0, 0, 0, 0}};
        ClassPools x = with(m);
        for (int i = 0; i < at.length; i++) {
            for (int what = 0; what < 4; what++) {
                due("place " + at[i] + ", " + what, x.entry(0, at[i], what), dues[i][what]);
            }
            due("what -1 of place " + at[i], x.entry(0, at[i], -1), BAD);
            due("what 4 of place " + at[i], x.entry(0, at[i], 4), BAD);
        }
        check.of("Promise 7", "NONE: FILE, place below 0, n or above; BAD.");
        due("place n - 1", x.entry(0, m.places - 1, 0), 0);
        for (int i : outside(0, m.places - 1)) {
            due("place " + i, x.entry(0, i, 0), NONE);
            due("NONE ahead of BAD, place " + i, x.entry(0, i, 4), NONE);
        }
        for (int file : outside(0, 0)) {
            due("FILE " + file, x.entry(file, 1, 0), NONE);
            due("NONE ahead of BAD, FILE " + file, x.entry(file, 1, 4), NONE);
        }
        for (int what : outside(0, 3)) {
            due("what " + what, x.entry(0, 1, what), BAD);
        }
    }

    private static void number() {
        check.of("Promise 8", "BITS of a number in place i (of 3, 4 as an int).");
        for (int bits : new int[] {LOW, LOW + 1, -1, 0, 1, 255, 256, 0x7FC00000, 0xFFC00000, HIGH}) {
            Made m = Made.least("A");
            int i = m.four(3, bits);
            int f = m.four(4, bits);
            ClassPools x = with(m);
            due("INT " + bits, x.number(0, i), bits);
            due("FLOAT " + bits, x.number(0, f), bits);
        }
        for (long bits : new long[] {Long.MIN_VALUE, LOW - 1L, LOW, -1, 0, 1, HIGH + 1L, 0xFFFFFFFFL, 1L << 32, Long.MAX_VALUE}) {
            Made m = Made.least("A");
            int l = m.eight(5, bits);
            int d = m.eight(6, bits);
            ClassPools x = with(m);
            due("LONG " + bits, x.number(0, l), bits);
            due("DOUBLE " + bits, x.number(0, d), bits);
        }
    }

    private static void numberThrows() {
        Made m = Made.rich();
        ClassPools x = with(m);
        check.of("Promise 8", "IllegalArgumentException: no such FILE");
        for (int file : outside(0, 0)) {
            for (int i : new int[] {-1, 0, 1, 15, m.places}) {
                check.due("FILE " + file + ", place " + i, Check.thrown(x, file, i), "IllegalArgumentException");
            }
        }
        check.of("Promise 8", "IndexOutOfBoundsException: no such place");
        for (int i : outside(0, m.places - 1)) {
            check.due("place " + i, Check.thrown(x, 0, i), "IndexOutOfBoundsException");
        }
        check.of("Promise 8", "NullPointerException: it is empty; ClassCastException: it is no number.");
        for (int i = 0; i < m.places; i++) {
            int tag = x.entry(0, i, 0);
            String got = Check.thrown(x, 0, i);
            String kind = got.endsWith("Exception") ? got : "a number";
            check.due("tag " + tag, kind, tag == 0 ? "NullPointerException" : tag >= 3 && tag <= 6 ? "a number" : "ClassCastException");
        }
        check.due("place n - 1 that is empty", Check.thrown(with(lastWide()), 0, 4), "NullPointerException");
    }

    private static Made lastWide() {
        Made m = Made.least("A");
        m.eight(5, 1);
        return m;
    }

    private static void text() {
        check.of("Promise 9", "NONE: FILE; BAD: what; -30 less 7, 8, 9 as FAULTS tell it of that place.");
        Made m = Made.rich();
        ClassPools x = with(m);
        int[] wanted = {1, 7, 8};
        for (int what = 0; what < 3; what++) {
            for (int i = 0; i < m.places; i++) {
                int tag = x.entry(0, i, 0);
                int got = x.text(0, i, what);
                due("tag " + tag + ", what " + what, got >= 0 ? 0 : got, tag == 0 ? -37 : tag == wanted[what] ? 0 : -39);
            }
            for (int i : outside(0, m.places - 1)) {
                due("place " + i + ", what " + what, x.text(0, i, what), -38);
            }
        }
        for (int what : outside(0, 2)) {
            due("what " + what, x.text(0, 1, what), BAD);
            due("BAD ahead of the place, " + what, x.text(0, m.places, what), BAD);
            due("BAD ahead of an empty place, " + what, x.text(0, 0, what), BAD);
        }
        for (int file : outside(0, 0)) {
            due("FILE " + file, x.text(file, 1, 0), NONE);
            due("NONE ahead of BAD, FILE " + file, x.text(file, 1, 3), NONE);
            due("NONE ahead of the place, FILE " + file, x.text(file, 0, 0), NONE);
        }
        check.of("Promise 9", "OUT is a TEXT: how many bytes. what = 0 that in place i, 1 the name of the CLASS in place i,"
            + " 2 the text of the STRING there.");
        Made texts = Made.least("");
        int string = texts.one(8, texts.text("\u0000\u00ff"));
        ClassPools y = with(texts);
        check.shows("STRING", y, y.text(0, string, 2), "\u0000\u00ff");
        check.shows("TEXT of no bytes", y, y.text(0, 1, 0), "");
        check.shows("TEXT", y, y.text(0, 3, 0), "\u0000\u00ff");
        check.shows("CLASS of no bytes", y, y.text(0, 2, 1), "");
        ClassPools z = with(Made.least("A".repeat(370)));
        due("the most bytes", z.text(0, 1, 0), 370);
        due("the last of them", z.out(369), 'A');
        due("behind them", z.out(370), NONE);
    }

    private static void member() {
        check.of("Promise 10", "OUT is a TEXT of member k: kind 0 a field, 1 a method; what = 0 its name, 1 its sort");
        Made m = Made.least("A");
        int i = m.text("I");
        int v = m.text("()V");
        for (int k = 0; k < 12; k++) {
            m.member(0, 0, m.text("f" + k), i);
            m.member(1, 0, m.text("m" + k), v);
        }
        ClassPools x = with(m);
        for (int k : new int[] {0, 1, 11}) {
            check.shows("name of field " + k, x, x.member(0, 0, k, 0), "f" + k);
            check.shows("sort of field " + k, x, x.member(0, 0, k, 1), "I");
            check.shows("name of method " + k, x, x.member(0, 1, k, 0), "m" + k);
            check.shows("sort of method " + k, x, x.member(0, 1, k, 1), "()V");
        }
        check.of("Promise 10", "NONE: FILE, member, no class above; BAD: kind, what.");
        ClassPools y = with(Made.rich(), Made.least("B"));
        for (int kind = 0; kind < 2; kind++) {
            for (int k : outside(0, kind == 0 ? 1 : 0)) {
                due("kind " + kind + ", member " + k, y.member(0, kind, k, 0), NONE);
                due("NONE ahead of BAD, member " + k, y.member(0, kind, k, 2), NONE);
            }
            due("no member", y.member(1, kind, 0, 0), NONE);
            for (int what : outside(0, 1)) {
                due("kind " + kind + ", what " + what, y.member(0, kind, 0, what), BAD);
            }
        }
        for (int kind : outside(0, 2)) {
            due("kind " + kind, y.member(0, kind, 0, 0), BAD);
        }
        for (int file : outside(0, 1)) {
            due("FILE " + file, y.member(file, 0, 0, 0), NONE);
            due("NONE ahead of BAD, FILE " + file, y.member(file, 3, 0, 2), NONE);
        }
    }

    private static void classes() {
        check.of("Promise 10", "kind 2: the class itself (k 0), the one above it (k 1), face k - 2 (what 0): how many bytes.");
        Made m = Made.least("Self");
        // flags and counts that could be taken for the place of a class
        m.flags = 2;
        for (int f = 0; f < 8; f++) {
            m.face(m.type("Face" + f));
        }
        ClassPools x = with(m, Made.rich(), Made.least("B"));
        check.shows("the class itself", x, x.member(0, 2, 0, 0), "Self");
        due("no class above", x.member(0, 2, 1, 0), NONE);
        check.shows("a class above", x, x.member(1, 2, 1, 0), "Above");
        for (int f = 0; f < 8; f++) {
            check.shows("face " + f, x, x.member(0, 2, f + 2, 0), "Face" + f);
        }
        for (int k : outside(0, 9)) {
            due("k " + k, x.member(0, 2, k, 0), NONE);
            due("NONE ahead of BAD, k " + k, x.member(0, 2, k, 1), NONE);
        }
        due("face 2 of two", x.member(1, 2, 4, 0), NONE);
        due("face 0 of none", x.member(2, 2, 2, 0), NONE);
        due("NONE ahead of BAD, no class above", x.member(0, 2, 1, 1), NONE);
        for (int what : outside(0, 0)) {
            due("what " + what + " of the class", x.member(1, 2, 0, what), BAD);
            due("what " + what + " of the one above", x.member(1, 2, 1, what), BAD);
            due("what " + what + " of a face", x.member(1, 2, 3, what), BAD);
        }
    }

    private static void told() {
        check.of("Promise 11", "Of member k, a field (kind 0) or method (1): what = 0 flags, 1 how many attributes,"
            + " 2 SLOTS (of a field: what its TYPE takes), 3 how many TYPES in ( ) (of a field 0). NONE; BAD.");
        Made m = Made.least("A");
        byte[] a = Made.attribute(1, "");
        m.member(0, 65535, 1, m.text("D"), a, a, a, a, a, a).member(0, 0, 1, m.text("[D"));
        m.member(1, 0, 1, m.text("()D")).member(1, 65535, 1, m.text("(D[D)D"), a, a, a, a, a, a);
        ClassPools x = with(m);
        int[][][] dues = {{{65535, 6, 2, 0}, {0, 0, 1, 0}}, {{0, 0, 0, 0}, {65535, 6, 3, 2}}};
        for (int kind = 0; kind < 2; kind++) {
            for (int k = 0; k < 2; k++) {
                for (int what = 0; what < 4; what++) {
                    due("kind " + kind + ", " + k + ", " + what, x.told(0, kind, k, what), dues[kind][k][what]);
                }
            }
            for (int k : outside(0, 1)) {
                due("member " + k, x.told(0, kind, k, 0), NONE);
                due("NONE ahead of BAD, member " + k, x.told(0, kind, k, 4), NONE);
            }
            for (int what : outside(0, 3)) {
                due("what " + what, x.told(0, kind, 0, what), BAD);
            }
        }
        for (int kind : outside(0, 1)) {
            due("kind " + kind, x.told(0, kind, 0, 0), BAD);
        }
        for (int file : outside(0, 0)) {
            due("FILE " + file, x.told(file, 0, 0, 0), NONE);
            due("NONE ahead of BAD, FILE " + file, x.told(file, 2, 0, 4), NONE);
        }
    }

    /** A file in which the file, two fields and two methods have so many attributes each. */
    private static Made attributes(int... many) {
        Made m = Made.least("A");
        int[] sorts = {m.text("I"), m.text("()V")};
        for (int i = 0; i < 4; i++) {
            byte[][] all = new byte[many[i]][];
            Arrays.fill(all, Made.attribute(1, ""));
            m.member(i / 2, 0, 1, sorts[i / 2], all);
        }
        for (int i = 0; i < many[4]; i++) {
            m.attribute(Made.attribute(1, ""));
        }
        return m;
    }

    private static void attribute() {
        check.of("Promise 12", "Attribute a of member k, a field (kind 0), method (1), of the FILE (2, k 0)");
        int[][] counts = {{0, 6, 1, 0, 2}, {1, 0, 0, 6, 0}, {2, 1, 6, 5, 6}};
        for (int[] many : counts) {
            ClassPools x = with(attributes(many));
            for (int i = 0; i < 5; i++) {
                int kind = i / 2;
                for (int a = 0; a < 8; a++) {
                    due("kind " + kind + ", " + a, x.attribute(0, kind, i % 2, a, 0), a < many[i] ? 1 : NONE);
                }
                for (int a : outside(0, many[i] - 1)) {
                    due("kind " + kind + ", attribute " + a, x.attribute(0, kind, i % 2, a, 0), NONE);
                }
            }
        }
        check.of("Promise 12", "how many. NONE; BAD.");
        Made one = attributes(1, 1, 1, 1, 1);
        // a version that could be taken for counts
        one.first = 0x0101;
        one.second = 0x0101;
        ClassPools x = with(one);
        for (int kind = 0; kind < 3; kind++) {
            for (int k : outside(0, kind == 2 ? 0 : 1)) {
                due("kind " + kind + ", member " + k, x.attribute(0, kind, k, 0, 0), NONE);
                due("NONE ahead of BAD, member " + k, x.attribute(0, kind, k, 0, 2), NONE);
            }
            for (int what : outside(0, 1)) {
                due("what " + what, x.attribute(0, kind, 0, 0, what), BAD);
            }
            due("NONE ahead of BAD, attribute 1", x.attribute(0, kind, 0, 1, 2), NONE);
        }
        for (int kind : outside(0, 2)) {
            due("kind " + kind, x.attribute(0, kind, 0, 0, 0), BAD);
        }
        for (int file : outside(0, 0)) {
            due("FILE " + file, x.attribute(file, 2, 0, 0, 0), NONE);
            due("NONE ahead of BAD, FILE " + file, x.attribute(file, 3, 0, 0, 2), NONE);
        }
    }

    private static void attributeBytes() {
        check.of("Promise 12", "OUT is its name (what = 0), its bytes (1): how many.");
        String[] contents = {"", "a", "\u0000\u00ff", "bc".repeat(20), "", "d"};
        Made m = Made.least("A");
        int f = m.text("I");
        int v = m.text("()V");
        int[] names = {m.text(""), m.text("N"), f};
        byte[][] all = new byte[6][];
        for (int a = 0; a < 6; a++) {
            all[a] = Made.attribute(names[a % 3], contents[a]);
            m.attribute(all[a]);
        }
        m.member(0, 0, 1, f, all).member(1, 0, 1, v, all);
        String[] shown = {"", "N", "I"};
        for (int kind = 0; kind < 3; kind++) {
            ClassPools x = with(m);
            for (int a = 5; a >= 0; a--) {
                check.shows("name of " + a, x, x.attribute(0, kind, 0, a, 0), shown[a % 3]);
                check.shows("bytes of " + a, x, x.attribute(0, kind, 0, a, 1), contents[a]);
            }
        }
        Made most = Made.least("A");
        most.attribute(Made.attribute(1, "x".repeat(363)));
        ClassPools x = with(most);
        due("all bytes of the tape", x.file(0, 0), 400);
        due("the most bytes", x.attribute(0, 2, 0, 0, 1), 363);
        due("the last of them", x.out(362), 'x');
        due("behind them", x.out(363), NONE);
    }

    private static void out() {
        check.of("Promise 13", "Byte i of OUT, 0 .. 255. NONE: it has none such.");
        StringBuilder all = new StringBuilder();
        for (char c = 0; c < 256; c++) {
            all.append(c);
        }
        ClassPools x = with(Made.least(all.toString()));
        x.text(0, 1, 0);
        for (int i = 0; i < 256; i++) {
            due("byte " + i, x.out(i), i);
        }
        for (int i : outside(0, 255)) {
            due("byte " + i, x.out(i), NONE);
        }
        x.write(0, 0);
        int size = x.file(0, 0);
        due("the last byte", x.out(size - 1), 0);
        due("behind the last byte", x.out(size), NONE);
        ClassPools y = with(Made.least(""), Made.least("ab"));
        y.text(1, 1, 0);
        due("the second byte", y.out(1), 'b');
        y.text(0, 1, 0);
        due("the first byte of none", y.out(0), NONE);
        due("the second byte of none", y.out(1), NONE);
        ClassPools z = with(Made.least("A".repeat(370)));
        z.write(0, 0);
        due("byte 399", z.out(399), 0);
        due("byte 400", z.out(400), NONE);
    }

    private static void join() {
        check.of("Promise 14", "JOINED is reckoned: how many MEANINGS.");
        ClassPools x = with();
        due("no FILES", x.join(), 0);
        due("none", x.meaning(0, 0), NONE);
        ClassPools y = six();
        due("six FILES", y.join(), 12);
        due("the last", y.meaning(11, 0), 7);
        due("behind the last", y.meaning(12, 0), NONE);
        y.drop(5);
        due("as it was reckoned", y.meaning(11, 0), 7);
        due("five FILES", y.join(), 10);
        due("behind the last", y.meaning(10, 0), NONE);
        for (int i = 4; i >= 0; i--) {
            y.drop(i);
        }
        due("no FILES any more", y.join(), 0);
        due("none any more", y.meaning(0, 0), NONE);
    }

    private static void joined() {
        check.of("Promise 15", "NONE: FILE, place, it is empty; or it is not among them.");
        Made m = lastWide();
        ClassPools x = with(m);
        due("before a join", x.joined(0, 1), NONE);
        due("join", x.join(), 3);
        int[] dues = {NONE, 0, 2, 1, NONE};
        for (int i = 0; i < dues.length; i++) {
            due("place " + i, x.joined(0, i), dues[i]);
        }
        for (int i : outside(0, 4)) {
            due("place " + i, x.joined(0, i), NONE);
        }
        for (int file : outside(0, 0)) {
            due("FILE " + file, x.joined(file, 1), NONE);
        }
        Made other = Made.least("B");
        other.eight(5, 1);
        other.eight(5, 2);
        other.eight(6, 1);
        other.text("A");
        other.read(x);
        int[] later = {NONE, NONE, NONE, 1, NONE, NONE, NONE, NONE, NONE, 0};
        for (int i = 0; i < later.length; i++) {
            due("place " + i + " of a later FILE", x.joined(1, i), later[i]);
        }
        check.of("Promise 15", "The number in the JOINED that was reckoned last of the MEANING of place i of a FILE, as it stands now.");
        x.drop(0);
        due("the FILE that is 0 now", x.joined(0, 3), 1);
        due("place 1 of it", x.joined(0, 1), NONE);
        due("no FILE 1 now", x.joined(1, 3), NONE);
        due("join", x.join(), 6);
        due("in the JOINED that was reckoned last", x.joined(0, 3), 2);
        due("place 1 of it", x.joined(0, 1), 1);
        joinedStays();
    }

    /** The JOINED is no FILE's: it stays when FILES go, others take their room, and one is put in order. */
    private static void joinedStays() {
        ClassPools x = six();
        due("join", x.join(), 12);
        for (int i = 5; i >= 0; i--) {
            x.drop(i);
        }
        for (int i = 0; i < 6; i++) {
            Made.least("B" + i).read(x);
        }
        due("not among them", x.joined(5, 1), NONE);
        due("nowhere", x.meaning(5, 1), 0);
        due("its tag", x.meaning(5, 0), 1);
        x.write(0, 1);
        due("behind a FILE in order", x.joined(0, 1), NONE);
        x.drop(0);
        Made.least("A5").read(x);
        due("the last TEXT", x.joined(5, 1), 5);
        due("the last CLASS", x.joined(5, 2), 11);
        due("in one place", x.meaning(11, 1), 1);
        due("behind the last", x.meaning(12, 0), NONE);
    }

    private static void meaning() {
        check.of("Promise 16", "MEANING j of the JOINED that was reckoned last: what = 0 its TAG, 1 in how many places of all FILES,"
            + " as they stand now, it is. NONE; BAD.");
        Made m = Made.least("A");
        while (m.places < 60) {
            m.text("A");
        }
        m.text("B");
        ClassPools x = with(m, lastWide());
        due("before a join", x.meaning(0, 0), NONE);
        due("before a join, NONE ahead of BAD", x.meaning(0, 2), NONE);
        due("join", x.join(), 4);
        int[][] dues = {{1, 59}, {1, 1}, {5, 1}, {7, 2}};
        for (int j = 0; j < 4; j++) {
            due("tag of " + j, x.meaning(j, 0), dues[j][0]);
            due("places of " + j, x.meaning(j, 1), dues[j][1]);
            due("what -1 of " + j, x.meaning(j, -1), BAD);
            due("what 2 of " + j, x.meaning(j, 2), BAD);
        }
        for (int j : outside(0, 3)) {
            due("MEANING " + j, x.meaning(j, 0), NONE);
            due("NONE ahead of BAD, MEANING " + j, x.meaning(j, 2), NONE);
        }
        for (int what : outside(0, 1)) {
            due("what " + what, x.meaning(0, what), BAD);
        }
        x.drop(0);
        int[] left = {1, 0, 1, 1};
        for (int j = 0; j < 4; j++) {
            due("places of " + j + " behind a drop", x.meaning(j, 1), left[j]);
            due("tag of " + j + " behind a drop", x.meaning(j, 0), dues[j][0]);
        }
        Made.least("B").read(x);
        due("places of B behind a read", x.meaning(1, 1), 1);
        x.drop(0);
        x.drop(0);
        due("places of B in no FILES", x.meaning(1, 1), 0);
        due("its tag", x.meaning(1, 0), 1);
    }

    private static void alike() {
        check.of("Promise 17", "2 if two FILES are alike byte for byte, 1 if IN MEANING, else 0. NONE.");
        Made other = Made.least("A");
        other.text("x");
        Made attribute = Made.least("A");
        attribute.attribute(Made.attribute(1, ""));
        ClassPools x = with(Made.least("A"), other, Made.least("B"), Made.least("A"), attribute);
        int[][] dues = {{2, 1, 0, 2, 0}, {1, 2, 0, 1, 0}, {0, 0, 2, 0, 0}, {2, 1, 0, 2, 0}, {0, 0, 0, 0, 2}};
        for (int a = 0; a < 5; a++) {
            for (int b = 0; b < 5; b++) {
                due(a + " and " + b, x.alike(a, b), dues[a][b]);
            }
        }
        for (int file : outside(0, 4)) {
            due(file + " and 0", x.alike(file, 0), NONE);
            due("0 and " + file, x.alike(0, file), NONE);
            due(file + " twice", x.alike(file, file), NONE);
        }
        Made unused = Made.least("A");
        unused.text("y");
        due("an ENTRY that nothing tells", with(other, unused).alike(0, 1), 1);
    }

    private static void write() {
        check.of("Promise 18", "OUT is a FILE: how = 0 as it was read, 1 IN ORDER: how many bytes. NONE; BAD.");
        Made turned = new Made();
        turned.self = turned.one(7, 2);
        turned.text("A");
        ClassPools x = with(turned);
        due("as it was read", x.write(0, 0), turned.bytes().length);
        bytes("as it was read", x, turned.bytes());
        due("IN ORDER", x.write(0, 1), turned.bytes().length);
        bytes("IN ORDER", x, Made.least("A").bytes());
        due("as it was read, once more", x.write(0, 0), turned.bytes().length);
        bytes("the FILE stays", x, turned.bytes());
        for (int how : outside(0, 1)) {
            due("how " + how, x.write(0, how), BAD);
        }
        for (int file : outside(0, 0)) {
            due("FILE " + file, x.write(file, 0), NONE);
            due("FILE " + file + " IN ORDER", x.write(file, 1), NONE);
            due("NONE ahead of BAD, FILE " + file, x.write(file, 2), NONE);
        }
        ClassPools y = with(Made.least("A".repeat(370)));
        due("400 bytes", y.write(0, 0), 400);
        due("400 bytes IN ORDER", y.write(0, 1), 400);
        due("byte 399", y.out(399), 0);
        due("byte 400", y.out(400), NONE);
    }

    private static void back() {
        check.of("Promise 19", "THE TAPE is OUT: how many bytes.");
        ClassPools x = with(Made.least(""), Made.least("abc"));
        x.feed(0, 8);
        due("an empty OUT", x.back(), 0);
        due("an empty tape", x.feed(0, 1), 1);
        x.text(1, 1, 0);
        due("instead of the tape", x.back(), 3);
        check.due("OUT stays", Check.shown(x), "abc");
        due("behind it", x.feed(0, 1), 4);
        check.due("OUT is not the tape", Check.shown(x), "abc");
        due("once more", x.back(), 3);
        due("read", x.read(), -22);
        check.due("OUT stays behind a read", Check.shown(x), "abc");
        x.write(1, 0);
        due("a FILE", x.back(), x.file(1, 0));
        x.text(0, 1, 0);
        due("the tape is not OUT", x.read(), 2);
        due("the same FILE", x.alike(1, 2), 2);
        ClassPools y = with(Made.least("A".repeat(370)));
        fill(y, 400);
        due("an empty OUT for a full tape", y.back(), 0);
        y.write(0, 0);
        due("400 bytes", y.back(), 400);
        due("a full tape", y.feed(0, 1), FULL);
        due("read of it", y.read(), 1);
        due("the same FILE", y.alike(0, 1), 2);
    }
}
