import java.util.Arrays;

/** Each promise of the document: ordinary inputs, the edges that it names, wrong inputs. */
public final class PromisesTest {
    private static final int NONE = ClassPools.NONE, BAD = ClassPools.BAD, FULL = ClassPools.FULL;
    private static final int LOW = Integer.MIN_VALUE, HIGH = Integer.MAX_VALUE;
    private static final int[] WILD = {-1, -2, LOW, HIGH, 1 << 16, 1000};

    private static final Check check = new Check();

    private static void due(String what, long got, long want) {
        check.due(what, got, want);
    }

    private static void due(String what, String got, String want) {
        check.due(what, got, want);
    }

    public static void main(String[] args) {
        aNewObject();
        feed();
        read();
        readStops();
        readCounts();
        readTags();
        readTold();
        readSorts();
        place();
        drop();
        file();
        entry();
        number();
        text();
        member();
        told();
        attribute();
        out();
        join();
        joinFull();
        joinedOrder();
        joined();
        meaning();
        alike();
        write();
        writeInOrder();
        back();
        check.end();
    }

    private static ClassPools with(Made... files) {
        return check.with(files);
    }

    private static void aNewObject() {
        ClassPools x = new ClassPools();
        due("drop of a new object", x.drop(0), NONE);
        due("file of a new object", x.file(0, 0), NONE);
        due("out of a new object", x.out(0), NONE);
        due("place of a new object", x.place(), NONE);
        due("joined of a new object", x.joined(0, 1), NONE);
        due("meaning of a new object", x.meaning(0, 0), NONE);
        due("alike of a new object", x.alike(0, 0), NONE);
        due("write of a new object", x.write(0, 0), NONE);
        due("join of a new object", x.join(), 0);
        due("back of a new object", x.back(), 0);
        due("feed of a new object", x.feed(7, 1), 1);
        Made.least("A").read(x);
        due("another object", new ClassPools().file(0, 0), NONE);
    }

    private static void feed() {
        ClassPools x = new ClassPools();
        for (int n : new int[] {0, 9, -1, LOW, HIGH}) {
            due("feed so many", x.feed(1, n), BAD);
        }
        for (int i = 1; i <= 49; i++) {
            due("feed", x.feed(0xCAFEBABE00000000L, 8), 8 * i);
        }
        due("feed behind 392", x.feed(0, 7), 399);
        due("feed of 2 behind 399", x.feed(0, 2), FULL);
        due("feed of 9 behind 399", x.feed(0, 9), BAD);
        due("feed of 1 behind 399", x.feed(0, 1), 400);
        due("feed behind 400", x.feed(0, 1), FULL);
        due("read of 400", x.read(), -23);
        due("place in 400", x.place(), 8);

        ClassPools y = new ClassPools();
        byte[] bytes = Made.least("\u0001\u00ffz").bytes();
        int at = 0;
        for (int n = 1; at < bytes.length; n = n % 8 + 1) {
            int many = Math.min(n, bytes.length - at);
            long w = -1;
            for (int i = 0; i < many; i++) {
                w = w << 8 | bytes[at + i] & 255;
            }
            at += many;
            due("feed of " + many, y.feed(w, many), at);
        }
        due("read of what was fed", y.read(), 0);
        y.write(0, 0);
        due("bytes that were fed", Arrays.toString(Check.shownBytes(y)), Arrays.toString(bytes));
    }

    private static void read() {
        ClassPools x = new ClassPools();
        for (int i = 0; i < 6; i++) {
            due("read", Made.least("A" + i).read(x), i);
            due("place behind a right one", x.place(), NONE);
        }
        byte[] more = Made.least("B").bytes();
        int fed = Made.feed(x, more);
        due("read of a seventh", x.read(), FULL);
        due("the tape stays", x.feed(0, 1), fed + 1);
        due("drop", x.drop(2), 5);
        due("read with a byte behind it", x.read(), -26);
        due("place of it", x.place(), more.length);
        due("the tape is empty behind a fault", x.feed(0, 1), 1);
        due("read of one byte", x.read(), -22);
        due("read again", Made.read(x, more), 5);
        due("no fault is left", x.place(), NONE);
        due("the tape is empty behind a file", x.feed(0, 1), 1);
        due("read when full", x.read(), FULL);
        due("bytes of the file", x.file(5, 0), more.length);
    }

    private static void fault(String what, byte[] bytes, int fault, int place) {
        check.fault(what, bytes, fault, place);
    }

    private static void readStops() {
        byte[] bytes = Made.rich().bytes();
        for (int n = 0; n < bytes.length; n++) {
            fault("the first " + n, Arrays.copyOf(bytes, n), 1, n);
        }
        fault("one byte more", Arrays.copyOf(bytes, bytes.length + 1), 6, bytes.length);
        fault("ten bytes more", Arrays.copyOf(bytes, bytes.length + 10), 6, bytes.length);
        for (int i = 0; i < 4; i++) {
            byte[] other = bytes.clone();
            other[i] ^= (byte) (i == 3 ? 0x80 : 1);
            fault("magic", other, 2, i);
            other[3] ^= 4;
            fault("magic, the first byte of several", other, 2, i);
            fault("magic ahead of the end", Arrays.copyOf(other, i + 1), 2, i);
        }
    }

    private static void readCounts() {
        byte[] least = Made.least("A").bytes();
        int behind = Made.least("A").behind();
        for (int n : new int[] {0, 62, 256, 32768, 65535}) {
            fault("pool of " + n, Made.changed(least, 8, n), 3, 8);
        }
        for (int n : new int[] {9, 65535}) {
            fault("faces", Made.changed(least, behind + 6, n), 3, behind + 6);
        }
        for (int n : new int[] {13, 65535}) {
            fault("fields", Made.changed(least, behind + 8, n), 3, behind + 8);
            fault("methods", Made.changed(least, behind + 10, n), 3, behind + 10);
        }
        for (int n : new int[] {7, 65535}) {
            fault("attributes", Made.changed(least, behind + 12, n), 3, behind + 12);
        }
        fault("pool of 61 that ends", Made.changed(least, 8, 61), 4, 17);

        Made most = Made.least("A");
        int i = most.text("I");
        int v = most.text("()V");
        byte[] attribute = Made.attribute(1, "");
        for (int k = 0; k < 8; k++) {
            most.face(2);
        }
        for (int k = 0; k < 12; k++) {
            most.member(0, 0, 1, i);
            most.member(1, 0, 1, v);
        }
        for (int a = 0; a < 6; a++) {
            most.attribute(attribute);
        }
        ClassPools x = with(most);
        due("8 faces", x.file(0, 4), 8);
        due("12 fields", x.file(0, 5), 12);
        due("12 methods", x.file(0, 6), 12);
        due("6 attributes", x.file(0, 7), 6);

        for (int kind = 0; kind < 2; kind++) {
            Made six = Made.least("A");
            int sort = six.text(kind == 0 ? "I" : "()V");
            six.member(kind, 0, 1, sort, attribute, attribute, attribute, attribute, attribute, attribute);
            due("6 attributes of a member", with(six).told(0, kind, 0, 1), 6);
            int at = six.behind() + 8 + 2 * kind + 2 + 6;
            fault("7 attributes of a member", Made.changed(six.bytes(), at, 7), 3, at);
            byte[] below = six.bytes();
            below[at + 4] = (byte) 0x80;
            fault("bytes of an attribute below 0", below, 5, at + 4);
            below[at + 4] = 0x7F;
            fault("too many bytes of an attribute", below, 1, below.length);
        }
        byte[] full = Made.least("A".repeat(370)).bytes();
        fault("attributes at the end of 400 bytes", Made.changed(full, 398, 7), 3, 398);
        fault("an attribute behind 400 bytes", Made.changed(full, 398, 6), 1, 400);
        Made pool = new Made();
        pool.self = pool.type("A");
        while (pool.places < 61) {
            pool.four(3, pool.places);
        }
        due("pool of 61", with(pool).file(0, 2), 61);
    }

    private static void readTags() {
        for (int tag = 0; tag < 256; tag++) {
            byte[] bytes = Made.least("A").bytes();
            bytes[14] = (byte) tag;
            if (tag == 0 || tag == 2 || tag > 12) {
                fault("tag " + tag, bytes, 4, 14);
                fault("tag " + tag + " at the end", Arrays.copyOf(bytes, 15), 4, 14);
            }
            if (tag == 5 || tag == 6) {
                fault("two places in the last one", bytes, 4, 14);
                fault("two places in the last one, at the end", Arrays.copyOf(bytes, 15), 4, 14);
            }
        }
        for (int tag = 5; tag < 7; tag++) {
            Made m = Made.least("A");
            m.eight(tag, 1);
            due("two places at the end", with(m).file(0, 2), 5);
        }
    }

    /** Every TWO that tells a place in turn tells nothing, then a place outside, then another sort. */
    private static void readTold() {
        Made m = Made.rich();
        byte[] bytes = m.bytes();
        int other = 10;
        int b = m.behind();
        int field = b + 14;
        int method = field + 8 + 8 + 6 + 8 + 2;
        int file = method + 8 + 9;
        int[] told = {
            b + 2, b + 4, b + 8, b + 10, field + 2, field + 4, field + 8, field + 16, field + 24, field + 26,
            method + 2, method + 4, method + 8, file + 2, file + 11,
        };
        for (int at : told) {
            if (at != b + 4) {
                fault("nothing told at " + at, Made.changed(bytes, at, 0), 7, at);
            }
            fault("the second place told at " + at, Made.changed(bytes, at, 14), 7, at);
            fault("outside told at " + at, Made.changed(bytes, at, m.places), 8, at);
            fault("far outside told at " + at, Made.changed(bytes, at, 65535), 8, at);
            fault("an int told at " + at, Made.changed(bytes, at, 15), 9, at);
            fault("later ones told too", Made.changed(Made.changed(bytes, at, m.places), file + 11, 0), at == file + 11 ? 7 : 8, at);
        }
        due("no class above", Made.read(new ClassPools(), Made.changed(bytes, b + 4, 0)), 0);

        int[][] wanted = {{7, 1, 0}, {8, 1, 0}, {9, 7, 12}, {10, 7, 12}, {11, 7, 12}, {12, 1, 1}};
        int[] right = new int[13];
        for (int[] want : wanted) {
            for (int tag : new int[] {1, 3, 7, 8, 9, 12}) {
                for (int second = 0; second < (want[2] == 0 ? 1 : 2); second++) {
                    Made p = Made.least("A");
                    right[1] = 1;
                    right[7] = 2;
                    right[3] = p.four(3, 5);
                    right[8] = p.one(8, 1);
                    right[12] = p.pair(12, 1, 1);
                    right[9] = p.pair(9, 2, right[12]);
                    int at = p.behind() + 1;
                    int one = second == 0 ? right[tag] : right[want[1]];
                    int two = second == 1 ? right[tag] : right[want[2]];
                    if (want[2] == 0) {
                        p.one(want[0], one);
                    } else {
                        p.pair(want[0], one, two);
                    }
                    if (tag == want[1 + second]) {
                        due("tag " + want[0] + " leads to " + tag, p.read(new ClassPools()), 0);
                    } else {
                        fault("tag " + want[0] + " leads to " + tag, p.bytes(), 9, at + 2 * second);
                    }
                    fault("ahead of the class", Made.changed(Made.changed(p.bytes(), p.behind() + 2, 0), at, 0), 7, at);
                }
            }
        }
        Made forward = new Made();
        forward.self = forward.one(7, 2);
        forward.text("A");
        due("an entry that leads to a later one", forward.read(new ClassPools()), 0);
        fault("a pool without places", new Made().bytes(), 7, 12);
    }

    private static void sort(int kind, String sort, boolean right) {
        Made m = Made.least("A");
        m.member(kind, 0, 1, m.text(sort));
        String shown = (kind == 0 ? "field " : "method ") + (sort.length() > 20 ? sort.length() + " bytes" : sort);
        if (right) {
            due(shown, m.read(new ClassPools()), 0);
        } else {
            fault(shown, m.bytes(), 10, m.behind() + (kind == 0 ? 14 : 16));
        }
    }

    private static void readSorts() {
        for (char c = 0; c < 256; c++) {
            boolean base = "BCDFIJSZ".indexOf(c) >= 0;
            sort(0, "" + c, base);
            sort(1, "()" + c, base || c == 'V');
            sort(1, "(" + c + ")V", base);
            sort(0, "L" + c + ";", c != ';');
        }
        String deep = "[".repeat(255);
        String[] types = {"LA;", "L[;", "La/b;", "[I", "[[LA;", "L();", "LLA;", deep + "I", deep + "LA;"};
        String[] none = {"", "L", "LA", "L;", "L;;", "[", "[[", "[V", "II", "LA;;", "LA;I", "I;", "[L;", "()V", "(I",
            deep + "[I", deep + "[LA;", " I", "[]"};
        for (String type : types) {
            sort(0, type, true);
            sort(1, "(" + (type.length() < 200 ? type + type + "I" : type) + ")V", true);
            sort(1, "()" + type, true);
            sort(1, type, false);
        }
        for (String type : none) {
            sort(0, type, false);
            sort(1, "()" + type, false);
            sort(1, type, type.equals("()V"));
            if (!type.isEmpty() && !type.equals("II") && !type.equals("LA;I")) {
                sort(1, "(" + type + ")V", false);
            }
        }
        for (String method : new String[] {"", "(", ")", "()", "V", "(V", ")V", "()VV", "(V)V", "(I)", "(I)II", "(()V)V",
            "()V ", "(IV)V", "(I", "(LA)V", "(I)I)V", "I)V", "[)V", " )V", "I()V"}) {
            sort(1, method, false);
        }
        Made both = Made.least("A");
        int bad = both.text("?");
        both.member(0, 0, 1, both.text("I")).member(0, 0, 1, bad).member(1, 0, 1, bad);
        fault("the first sort of several", both.bytes(), 10, both.behind() + 10 + 8 + 4);
        Made named = Made.least("A");
        named.pair(12, 1, 1);
        due("a sort in the pool is not looked at", named.read(new ClassPools()), 0);
        Made later = Made.least("A");
        later.member(0, 0, 1, 1).attribute(Made.attribute(9, ""));
        fault("places ahead of sorts", later.bytes(), 8, later.behind() + 22);
    }

    private static void place() {
        ClassPools x = new ClassPools();
        due("place before a read", x.place(), NONE);
        due("read of nothing", x.read(), -21);
        due("place of nothing", x.place(), 0);
        due("place again", x.place(), 0);
        x.file(0, 0);
        x.feed(0xCA00, 2);
        due("place ahead of the next read", x.place(), 0);
        due("read of two bytes", x.read(), -22);
        due("place of the later fault", x.place(), 1);
        Made.least("A").read(x);
        due("place behind a right one", x.place(), NONE);
    }

    private static String name(ClassPools x, int file) {
        x.member(file, 2, 0, 0);
        return Check.shown(x);
    }

    private static void drop() {
        ClassPools x = with(Made.least("A"), Made.least("B"), Made.least("C"));
        for (int file : WILD) {
            due("drop of " + file, x.drop(file), NONE);
        }
        due("drop of one behind", x.drop(3), NONE);
        due("drop in the middle", x.drop(1), 2);
        due("first", name(x, 0), "A");
        due("second", name(x, 1), "C");
        due("third", x.member(2, 2, 0, 0), NONE);
        due("drop of the first", x.drop(0), 1);
        due("the one left", name(x, 0), "C");
        due("drop of the last", x.drop(0), 0);
        due("drop of none", x.drop(0), NONE);
        due("read again", Made.least("D").read(x), 0);
        due("the new one", name(x, 0), "D");
        due("drop of the new one", x.drop(0), 0);
        due("OUT stays", x.out(0), 'D');
        ClassPools y = new ClassPools();
        for (int i = 0; i < 6; i++) {
            Made.least("A" + i).read(y);
        }
        for (int file : new int[] {5, 0, 2}) {
            due("drop of one of six", y.drop(file), 5);
            due("read instead", Made.least("B" + file).read(y), 5);
        }
        String[] left = {"A1", "A2", "A4", "B5", "B0", "B2"};
        for (int i = 0; i < 6; i++) {
            due("file " + i, name(y, i), left[i]);
        }
    }

    private static void file() {
        Made m = Made.rich();
        Made high = Made.least("A");
        high.first = 0xFFFE;
        high.second = 0x8000;
        high.flags = 0xFFFF;
        ClassPools x = with(m, high);
        int[] first = {m.bytes().length, 61 * 65536 + 3, m.places, 0x8421, 2, 2, 1, 2};
        int[] second = {high.bytes().length, 0x8000FFFE, 3, 0xFFFF, 0, 0, 0, 0};
        for (int what = 0; what < 8; what++) {
            due("file 0, " + what, x.file(0, what), first[what]);
            due("file 1, " + what, x.file(1, what), second[what]);
            due("file 2, " + what, x.file(2, what), NONE);
        }
        due("what 8", x.file(0, 8), BAD);
        for (int wild : WILD) {
            due("file " + wild, x.file(wild, 0), NONE);
            due("what " + wild, x.file(0, wild), BAD);
            due("both", x.file(wild, wild), NONE);
        }
    }

    private static void entry() {
        Made m = Made.rich();
        ClassPools x = with(m);
        int[][] dues = {
            {0, 0, 0, 0}, {1, 0, 0, 1}, {1, 0, 0, 1}, {1, 0, 0, 4}, {7, 3, 0, 0}, {1, 0, 0, 5}, {7, 5, 0, 0},
            {1, 0, 0, 5}, {7, 7, 0, 0}, {1, 0, 0, 5}, {7, 9, 0, 0}, {1, 0, 0, 4}, {1, 0, 0, 13}, {5, 0, 0, 0},
            {0, 0, 0, 0}, {3, 0, 0, 0}, {4, 0, 0, 0}, {6, 0, 0, 0}, {0, 0, 0, 0}, {8, 1, 0, 0}, {12, 1, 2, 0},
            {9, 4, 20, 0}, {10, 6, 20, 0}, {11, 4, 20, 0},
        };
        due("places", m.places, dues.length);
        for (int i = 0; i < dues.length; i++) {
            for (int what = 0; what < 4; what++) {
                due("entry " + i + ", " + what, x.entry(0, i, what), dues[i][what]);
            }
        }
        due("place n", x.entry(0, m.places, 0), NONE);
        due("what 4", x.entry(0, 1, 4), BAD);
        due("what 4 of an empty place", x.entry(0, 0, 4), BAD);
        due("file 1", x.entry(1, 1, 0), NONE);
        for (int wild : WILD) {
            due("file " + wild, x.entry(wild, 1, 0), NONE);
            due("place " + wild, x.entry(0, wild, 0), NONE);
            due("what " + wild, x.entry(0, 1, wild), BAD);
            due("place and what", x.entry(0, wild, wild), NONE);
        }
    }

    private static void number() {
        Made m = Made.least("A");
        m.four(3, LOW);
        m.four(4, 0x7FC00000);
        m.four(4, -1);
        m.eight(5, 0x00000001_80000000L);
        m.eight(6, Double.doubleToRawLongBits(-0.0));
        m.eight(5, 0xFFFFFFFF_00000000L);
        m.one(8, 1);
        ClassPools x = with(m);
        String[] dues = {"NullPointerException", "ClassCastException", "ClassCastException", "" + LOW,
            "" + 0x7FC00000, "-1", "" + 0x00000001_80000000L, "NullPointerException", "" + Long.MIN_VALUE,
            "NullPointerException", "" + 0xFFFFFFFF_00000000L, "NullPointerException", "ClassCastException",
            "IndexOutOfBoundsException"};
        for (int i = 0; i < dues.length; i++) {
            due("number " + i, Check.thrown(x, 0, i), dues[i]);
        }
        for (int wild : WILD) {
            due("file " + wild, Check.thrown(x, wild, 3), "IllegalArgumentException");
            due("place " + wild, Check.thrown(x, 0, wild), "IndexOutOfBoundsException");
            due("both", Check.thrown(x, wild, wild), "IllegalArgumentException");
        }
        due("file 1", Check.thrown(x, 1, 3), "IllegalArgumentException");
    }

    private static void text() {
        Made m = Made.rich();
        int none = m.text("");
        ClassPools x = with(m);
        due("text", x.text(0, 3, 0), 4);
        due("OUT", Check.shown(x), "Self");
        due("class", x.text(0, 6, 1), 5);
        due("OUT", Check.shown(x), "Above");
        for (int i = 0; i < m.places + 2; i++) {
            int tag = Math.max(0, x.entry(0, i, 0));
            for (int what = 0; what < 3; what++) {
                int wanted = new int[] {1, 7, 8}[what];
                if (tag != wanted) {
                    due("text " + i + ", " + what, x.text(0, i, what), i >= m.places ? -38 : tag == 0 ? -37 : -39);
                }
            }
        }
        due("what 3", x.text(0, 3, 3), BAD);
        due("what 3 ahead of the place", x.text(0, 99, 3), BAD);
        due("file 1", x.text(1, 3, 0), NONE);
        for (int wild : WILD) {
            due("file " + wild, x.text(wild, 3, wild), NONE);
            due("place " + wild, x.text(0, wild, 0), -38);
            due("what " + wild, x.text(0, 3, wild), BAD);
        }
        due("OUT stays", Check.shown(x), "Above");
        due("string", x.text(0, 19, 2), 1);
        due("OUT", Check.shown(x), "f");
        due("text of no bytes", x.text(0, none, 0), 0);
        due("OUT of no bytes", x.out(0), NONE);
    }

    private static void member() {
        Made m = Made.rich();
        ClassPools x = with(m, Made.least("B"));
        Object[][] dues = {
            {0, 0, 0, "f"}, {0, 0, 1, "J"}, {0, 1, 0, "Code"}, {0, 1, 1, "J"}, {1, 0, 0, "f"},
            {1, 0, 1, "(IJ[D[[LX;D)V"}, {2, 0, 0, "Self"}, {2, 1, 0, "Above"}, {2, 2, 0, "FaceA"}, {2, 3, 0, "FaceB"},
        };
        for (Object[] d : dues) {
            String want = (String) d[3];
            due("member", x.member(0, (int) d[0], (int) d[1], (int) d[2]), want.length());
            due("OUT of member", Check.shown(x), want);
        }
        due("field 2", x.member(0, 0, 2, 0), NONE);
        due("field 2, what 2", x.member(0, 0, 2, 2), NONE);
        due("method 1", x.member(0, 1, 1, 0), NONE);
        due("face 2", x.member(0, 2, 4, 0), NONE);
        due("face 2, what 1", x.member(0, 2, 4, 1), NONE);
        due("no class above", x.member(1, 2, 1, 0), NONE);
        due("no class above, what 1", x.member(1, 2, 1, 1), NONE);
        due("no face", x.member(1, 2, 2, 0), NONE);
        due("what 2", x.member(0, 0, 0, 2), BAD);
        due("what 2 of a method", x.member(0, 1, 0, 2), BAD);
        due("what 1 of the class", x.member(0, 2, 0, 1), BAD);
        due("what 1 of the one above", x.member(0, 2, 1, 1), BAD);
        due("what 1 of a face", x.member(0, 2, 2, 1), BAD);
        due("kind 3", x.member(0, 3, 0, 0), BAD);
        due("file 2", x.member(2, 0, 0, 0), NONE);
        for (int wild : WILD) {
            due("file " + wild, x.member(wild, wild, 0, 0), NONE);
            due("kind " + wild, x.member(0, wild, 0, 0), BAD);
            for (int kind = 0; kind < 3; kind++) {
                due("k " + wild, x.member(0, kind, wild, wild), NONE);
                due("what " + wild, x.member(0, kind, 0, wild), BAD);
            }
        }
        due("OUT stays", Check.shown(x), "FaceB");
    }

    private static void told() {
        Made m = Made.rich();
        String[] methods = {"()V", "()J", "(JD)V", "([J[[D)D", "(BCDFIJSZ)I", "(LJ;LDD;J)V", "(LA;[LJ;)LJ;"};
        int[][] slots = {{0, 0}, {0, 0}, {4, 2}, {2, 2}, {10, 8}, {4, 3}, {2, 2}};
        String[] fields = {"D", "J", "I", "[J", "LJ;", "[[D", "Z"};
        int[] widths = {2, 2, 1, 1, 1, 1, 1};
        Made sorts = Made.least("A");
        for (int k = 0; k < methods.length; k++) {
            sorts.member(1, k, 1, sorts.text(methods[k]));
            sorts.member(0, 0, 1, sorts.text(fields[k]));
        }
        ClassPools x = with(m, sorts);
        int[][] dues = {{0, 0, 0x1234, 2, 2, 0}, {0, 1, 1, 0, 2, 0}, {1, 0, 0xFFFF, 1, 7, 5}};
        for (int[] d : dues) {
            for (int what = 0; what < 4; what++) {
                due("told", x.told(0, d[0], d[1], what), d[2 + what]);
            }
        }
        for (int k = 0; k < methods.length; k++) {
            due("slots of " + methods[k], x.told(1, 1, k, 2), slots[k][0]);
            due("types of " + methods[k], x.told(1, 1, k, 3), slots[k][1]);
            due("flags", x.told(1, 1, k, 0), k);
            due("slots of " + fields[k], x.told(1, 0, k, 2), widths[k]);
            due("types of " + fields[k], x.told(1, 0, k, 3), 0);
        }
        due("field 2", x.told(0, 0, 2, 0), NONE);
        due("field 2, what 4", x.told(0, 0, 2, 4), NONE);
        due("method 1", x.told(0, 1, 1, 0), NONE);
        due("what 4", x.told(0, 0, 0, 4), BAD);
        due("kind 2", x.told(0, 2, 0, 0), BAD);
        due("file 2", x.told(2, 0, 0, 0), NONE);
        for (int wild : WILD) {
            due("file " + wild, x.told(wild, wild, 0, 0), NONE);
            due("kind " + wild, x.told(0, wild, 0, 0), BAD);
            due("k " + wild, x.told(0, 1, wild, wild), NONE);
            due("what " + wild, x.told(0, 1, 0, wild), BAD);
        }
    }

    private static void attribute() {
        ClassPools x = with(Made.rich(), Made.least("B"));
        Object[][] dues = {
            {0, 0, 0, "Code", "ab"}, {0, 0, 1, "f", ""}, {1, 0, 0, "Code", "\u0000\u00ff1"}, {2, 0, 0, "Code", "xyz"},
            {2, 0, 1, "f", "\u0080"},
        };
        for (Object[] d : dues) {
            for (int what = 0; what < 2; what++) {
                String want = (String) d[3 + what];
                due("attribute", x.attribute(0, (int) d[0], (int) d[1], (int) d[2], what), want.length());
                due("OUT of attribute", Check.shown(x), want);
            }
        }
        due("a 2 of a field", x.attribute(0, 0, 0, 2, 0), NONE);
        due("a 0 of a field that has none", x.attribute(0, 0, 1, 0, 0), NONE);
        due("a 1 of a method", x.attribute(0, 1, 0, 1, 0), NONE);
        due("a 2 of the file", x.attribute(0, 2, 0, 2, 0), NONE);
        due("a 2 of the file, what 2", x.attribute(0, 2, 0, 2, 2), NONE);
        due("a 0 of a file that has none", x.attribute(1, 2, 0, 0, 0), NONE);
        due("k 1 of the file", x.attribute(0, 2, 1, 0, 0), NONE);
        due("field 2", x.attribute(0, 0, 2, 0, 0), NONE);
        due("method 1", x.attribute(0, 1, 1, 0, 0), NONE);
        due("kind 3", x.attribute(0, 3, 0, 0, 0), BAD);
        due("what 2", x.attribute(0, 2, 0, 0, 2), BAD);
        due("file 2", x.attribute(2, 2, 0, 0, 0), NONE);
        for (int wild : WILD) {
            due("file " + wild, x.attribute(wild, wild, 0, 0, 0), NONE);
            due("kind " + wild, x.attribute(0, wild, 0, 0, 0), BAD);
            for (int kind = 0; kind < 3; kind++) {
                due("k " + wild, x.attribute(0, kind, wild, 0, wild), NONE);
                due("a " + wild, x.attribute(0, kind, 0, wild, wild), NONE);
                due("what " + wild, x.attribute(0, kind, 0, 0, wild), BAD);
            }
        }
        due("OUT stays", Check.shown(x), "\u0080");
    }

    private static void out() {
        StringBuilder all = new StringBuilder();
        for (char c = 0; c < 256; c++) {
            all.append(c);
        }
        ClassPools x = with(Made.least(all.toString()));
        due("256 bytes", x.text(0, 1, 0), 256);
        for (int i = 0; i < 256; i++) {
            due("out " + i, x.out(i), i);
        }
        due("out behind it", x.out(256), NONE);
        x.member(0, 2, 1, 0);
        due("OUT stays behind NONE", x.out(255), 255);
        for (int wild : WILD) {
            due("out " + wild, x.out(wild), NONE);
        }
    }

    private static void join() {
        ClassPools x = with(Made.least("A"), Made.least("A"), Made.least("B"));
        due("join", x.join(), 4);
        x.drop(2);
        due("as it was reckoned", x.meaning(3, 0), 7);
        due("join again", x.join(), 2);
        due("as it is reckoned now", x.meaning(2, 0), NONE);
        x.drop(0);
        x.drop(0);
        due("join of none", x.join(), 0);
        due("no meaning", x.meaning(0, 0), NONE);
        Made twice = Made.least("A");
        twice.type("A");
        twice.text("A");
        twice.four(3, 5);
        twice.four(4, 5);
        twice.four(3, 5);
        twice.eight(5, 5);
        twice.eight(6, 5);
        twice.one(8, 1);
        twice.one(8, 3);
        due("each once", Made.read(x, twice.bytes()), 0);
        due("join of tags", x.join(), 7);
    }

    private static void joinFull() {
        ClassPools x = with(Made.ints(0, 50), Made.ints(50, 50), Made.ints(100, 48));
        due("150 meanings", x.join(), 150);
        due("the last one", x.joined(2, 50), 148);
        Made.read(x, Made.ints(148, 1).bytes());
        due("151 meanings", x.join(), FULL);
        due("what was reckoned stays", x.meaning(149, 0), 7);
        due("what was reckoned has it not", x.joined(3, 3), NONE);
        due("write does not touch it", x.write(3, 1), Made.ints(148, 1).bytes().length);
        due("what was reckoned is still there", x.joined(2, 50), 148);
        x.drop(0);
        due("join of fewer", x.join(), 101);
        due("joined now", x.joined(2, 3), 99);
    }

    /** Entries in their order; each file takes some of them, turned round. */
    private static void joinedOrder() {
        String[] texts = {"", "\u0000", "\u0000\u00ff", "()V", "A", "AA", "AB", "B", "\u007f", "\u0080", "\u00ff"};
        int[] numbers = {LOW, -1, 0, 1, HIGH};
        long[] longs = {Long.MIN_VALUE, LOW - 1L, -1, 0, 1, 1L << 32, Long.MAX_VALUE};
        Made m = new Made();
        int[] places = new int[80];
        int many = 0;
        int[] text = new int[texts.length];
        for (int i = texts.length - 1; i >= 0; i--) {
            text[i] = m.text(texts[i]);
        }
        for (int p : text) {
            places[many++] = p;
        }
        for (int tag = 3; tag <= 4; tag++) {
            many += numbers.length;
            for (int i = numbers.length - 1; i >= 0; i--) {
                places[many - numbers.length + i] = m.four(tag, numbers[i]);
            }
        }
        for (int tag = 5; tag <= 6; tag++) {
            many += longs.length;
            for (int i = longs.length - 1; i >= 0; i--) {
                places[many - longs.length + i] = m.eight(tag, longs[i]);
            }
        }
        due("places in order", m.places <= 61 ? 1 : 0, 1);
        m.self = m.one(7, text[4]);
        places[many++] = m.self;
        ClassPools x = with(m);
        due("join in order", x.join(), many);
        for (int i = 0; i < many; i++) {
            due("joined of " + places[i], x.joined(0, places[i]), i);
        }

        Made n = new Made();
        String[] few = {"a", "aa", "b"};
        int[] t = {n.text(few[0]), n.text(few[1]), n.text(few[2])};
        int[][] parts = {{0, 0, 0}, {0, 0, 1}, {0, 1, 0}, {0, 2, 2}, {1, 0, 0}, {2, 0, 0}};
        int[] at = new int[80];
        int k = 3;
        for (int i = 0; i < 3; i++) {
            at[i] = t[i];
        }
        for (int tag = 7; tag <= 8; tag++) {
            for (int i = 2; i >= 0; i--) {
                at[k + i] = n.one(tag, t[i]);
            }
            k += 3;
        }
        int[] type = {at[3], at[4], at[5]};
        int[] named = new int[9];
        for (int i = 8; i >= 0; i--) {
            named[i] = n.pair(12, t[i / 3], t[i % 3]);
        }
        for (int tag = 9; tag <= 11; tag++) {
            for (int i = parts.length - 1; i >= 0; i--) {
                at[k + i] = n.pair(tag, type[parts[i][0]], named[3 * parts[i][1] + parts[i][2]]);
            }
            k += parts.length;
        }
        for (int p : named) {
            at[k++] = p;
        }
        n.self = type[0];
        ClassPools y = with(Made.least("a"), n);
        due("join of several texts", y.join(), k);
        for (int i = 0; i < k; i++) {
            due("joined of several texts " + at[i], y.joined(1, at[i]), i);
        }
        due("joined of the other file", y.joined(0, 2), 3);
    }

    private static void joined() {
        ClassPools x = with(Made.least("B"), Made.least("A"));
        due("before a join", x.joined(0, 1), NONE);
        due("join", x.join(), 4);
        int[][] dues = {{NONE, 1, 3, NONE}, {NONE, 0, 2, NONE}};
        for (int f = 0; f < 2; f++) {
            for (int i = 0; i < 4; i++) {
                due("joined", x.joined(f, i), dues[f][i]);
            }
        }
        for (int wild : WILD) {
            due("file " + wild, x.joined(wild, 1), NONE);
            due("place " + wild, x.joined(0, wild), NONE);
        }
        Made wide = Made.least("B");
        wide.eight(5, 1);
        Made.read(x, wide.bytes());
        due("of a later file", x.joined(2, 2), 3);
        due("not among them", x.joined(2, 3), NONE);
        due("an empty place", x.joined(2, 4), NONE);
        x.drop(0);
        due("behind a drop", x.joined(0, 1), 0);
        due("behind a drop, the later file", x.joined(1, 1), 1);
        due("no such file any more", x.joined(2, 1), NONE);
        x.drop(0);
        x.drop(0);
        Made.read(x, Made.least("A").bytes());
        due("a file read later", x.joined(0, 2), 2);
    }

    private static void meaning() {
        Made twice = Made.least("A");
        twice.type("A");
        twice.eight(5, 7);
        twice.one(7, 3);
        ClassPools x = with(twice, Made.least("A"), Made.least("B"));
        due("join", x.join(), 5);
        int[][] dues = {{1, 3}, {1, 1}, {5, 1}, {7, 4}, {7, 1}};
        for (int j = 0; j < 5; j++) {
            due("tag of " + j, x.meaning(j, 0), dues[j][0]);
            due("places of " + j, x.meaning(j, 1), dues[j][1]);
            due("what 2 of " + j, x.meaning(j, 2), BAD);
        }
        due("meaning 5", x.meaning(5, 0), NONE);
        for (int wild : WILD) {
            due("meaning " + wild, x.meaning(wild, wild), NONE);
            due("what " + wild, x.meaning(0, wild), BAD);
        }
        x.drop(0);
        due("places behind a drop", x.meaning(3, 1), 1);
        due("nowhere any more", x.meaning(2, 1), 0);
        due("its tag stays", x.meaning(2, 0), 5);
        x.drop(0);
        Made.read(x, twice.bytes());
        due("places behind a later read", x.meaning(3, 1), 3);
        due("places of the other", x.meaning(1, 1), 1);
    }

    /** Two fields, a method, a face and attributes, told by texts that stand in one order or another. */
    private static Made turned(boolean other, String[] s, int change) {
        Made m = new Made();
        int[] t = new int[s.length];
        for (int i = 0; i < s.length; i++) {
            int k = other ? s.length - 1 - i : i;
            t[k] = m.text(s[k]);
        }
        if (other) {
            m.eight(5, 1);
        }
        m.above = m.one(7, t[1]);
        m.self = m.one(7, t[0]);
        m.flags = change == 1 ? 9 : 8;
        m.first = change == 2 ? 1 : 0;
        m.second = change == 3 ? 53 : 52;
        m.face(m.self);
        m.member(0, change == 4 ? 5 : 4, t[2], t[3], Made.attribute(t[2], change == 5 ? "yy" : "xx"));
        m.member(0, 4, t[2], t[3]);
        m.member(1, 4, t[2], t[4]);
        if (change == 6) {
            m.member(1, 4, t[2], t[4]);
        }
        if (change == 7) {
            m.face(m.self);
        }
        m.attribute(Made.attribute(t[5], change == 8 ? "zzz" : "zz"));
        if (change == 9) {
            m.above = 0;
        }
        if (change == 10) {
            m.above = m.self;
        }
        return m;
    }

    private static void alike() {
        String[] s = {"A", "B", "f", "I", "()V", "At"};
        ClassPools x = with(turned(false, s, 0), turned(true, s, 0), turned(false, s, 0));
        due("alike in meaning", x.alike(0, 1), 1);
        due("alike in meaning, turned", x.alike(1, 0), 1);
        due("alike byte for byte", x.alike(0, 2), 2);
        due("one file with itself", x.alike(1, 1), 2);
        for (int change = 1; change <= 10; change++) {
            ClassPools y = with(turned(false, s, 0), turned(true, s, change), turned(false, s, change));
            due("change " + change, y.alike(0, 1), 0);
            due("change " + change + ", turned", y.alike(1, 0), 0);
            due("change " + change + " in one pool", y.alike(2, 0), 0);
            due("change " + change + " in both", y.alike(1, 2), 1);
        }
        String[] unlike = {"C", "D", "g", "J", "()I", "Au"};
        for (int i = 0; i < s.length; i++) {
            String[] other = s.clone();
            other[i] = unlike[i];
            due("other text " + i, with(turned(false, s, 0), turned(true, other, 0)).alike(0, 1), 0);
        }
        Made more = turned(false, s, 0);
        more.text("more");
        due("more in the pool", with(more, turned(false, s, 0)).alike(0, 1), 1);
        Made bare = turned(true, s, 9);
        due("no class above in both", with(bare, turned(false, s, 9)).alike(0, 1), 1);
        for (int wild : WILD) {
            due("a " + wild, x.alike(wild, 0), NONE);
            due("b " + wild, x.alike(0, wild), NONE);
        }
        due("file 3", x.alike(0, 3), NONE);
    }

    private static void write() {
        Made m = Made.rich();
        ClassPools x = with(Made.least("B"), m);
        due("write as it was", x.write(1, 0), m.bytes().length);
        due("OUT", Arrays.toString(Check.shownBytes(x)), Arrays.toString(m.bytes()));
        ClassPools y = with(m);
        y.text(0, 3, 0);
        for (int wild : WILD) {
            due("file " + wild, y.write(wild, wild), NONE);
            due("how " + wild, y.write(0, wild), BAD);
        }
        due("how 2", y.write(0, 2), BAD);
        due("file 1", y.write(1, 0), NONE);
        due("OUT stays", Check.shown(y), "Self");
    }

    private static void inOrder(String what, Made was, Made due) {
        ClassPools x = with(was);
        due("write in order: " + what, x.write(0, 1), due.bytes().length);
        due("OUT: " + what, Arrays.toString(Check.shownBytes(x)), Arrays.toString(due.bytes()));
        x.back();
        due("read of it", x.read(), 1);
        due("alike", x.alike(0, 1), Arrays.equals(was.bytes(), due.bytes()) ? 2 : 1);
    }

    private static void writeInOrder() {
        Made was = new Made();
        was.first = 7;
        was.flags = 0x8001;
        was.self = was.one(7, 2);
        was.text("b");
        was.eight(6, 1);
        was.eight(5, 9);
        was.eight(5, -9);
        int named = was.pair(12, 2, 13);
        was.pair(11, 1, named);
        was.one(8, 2);
        was.four(3, 1);
        was.text("I");
        was.pair(12, 15, 13);
        was.text("b");
        was.above = was.type("a");
        was.eight(5, 9);
        was.pair(9, 1, 14);
        was.face(was.above).face(1);
        was.member(0, 1, 15, 13, Made.attribute(15, "\u0000\u0001\u0000\u0002"));
        was.attribute(Made.attribute(2, "q"));

        Made due = new Made();
        due.first = 7;
        due.flags = 0x8001;
        int i = due.text("I");
        int a = due.text("a");
        int b = due.text("b");
        due.four(3, 1);
        due.eight(5, -9);
        due.eight(5, 9);
        due.eight(6, 1);
        due.above = due.one(7, a);
        due.self = due.one(7, b);
        due.one(8, b);
        due.pair(9, due.self, 16);
        due.pair(11, due.self, 16);
        due("the place of the named", due.pair(12, b, i), 16);
        due.face(due.above).face(due.self);
        due.member(0, 1, b, i, Made.attribute(b, "\u0000\u0001\u0000\u0002"));
        due.attribute(Made.attribute(b, "q"));
        inOrder("all tags", was, due);
        inOrder("in order already", due, due);

        Made bare = new Made();
        bare.self = bare.one(7, 2);
        bare.text("A");
        inOrder("no class above", bare, Made.least("A"));
    }

    private static void back() {
        Made m = Made.rich();
        ClassPools x = with(m);
        due("back of no OUT", x.back(), 0);
        x.text(0, 3, 0);
        x.feed(1, 8);
        due("back instead of the tape", x.back(), 4);
        due("OUT stays", Check.shown(x), "Self");
        due("feed behind it", x.feed(0, 1), 5);
        due("read of it", x.read(), -22);
        x.write(0, 0);
        due("back", x.back(), m.bytes().length);
        due("read of the file", x.read(), 1);
        due("alike", x.alike(0, 1), 2);
        due("back again", x.back(), m.bytes().length);
        due("read again", x.read(), 2);
        x.text(0, 3, 0);
        due("the file has bytes of its own", x.alike(0, 2), 2);
        Made full = Made.least("A".repeat(370));
        due("a file of 400 bytes", full.bytes().length, 400);
        ClassPools y = with(full);
        y.write(0, 1);
        due("back of 400 bytes", y.back(), 400);
        due("a full tape", y.feed(0, 1), FULL);
        due("read of 400 bytes", y.read(), 1);
    }
}
