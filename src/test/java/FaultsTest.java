import java.util.Arrays;
import java.util.List;

/** The terms FILE, ENTRY and FAULTS: each sentence that names a boundary, on both sides of it. */
public final class FaultsTest {
    private static final int NONE = ClassPools.NONE;
    private static final int END = 1, MAGIC = 2, COUNT = 3, TAG = 4, SIZE = 5, MORE = 6,
        NOTHING = 7, OUTSIDE = 8, OTHER = 9, SORT = 10;
    private static final int FACES = 0, FIELDS = 1, METHODS = 2, ATTRIBUTES = 3;
    /** In a rich file: the second place of a LONG, and an INT, which no TWO wants. */
    private static final int EMPTY = 14, INT = 15;

    private static final Check check = new Check();

    private static void due(String what, long got, long want) {
        check.due(what, got, want);
    }

    public static void main(String[] args) {
        highestFirst();
        placesOfThePool();
        classAbove();
        texts();
        twoPlaces();
        end();
        endOfAFullTape();
        magic();
        countOfPlaces();
        counts();
        countsAtTheEnd();
        tags();
        tagOfTwoPlaces();
        size();
        more();
        theFirstOne();
        placesOfEntries();
        placesToldAtAll();
        placesInOrder();
        sortsLast();
        check.end();
    }

    private static byte[] first(byte[] bytes, int many) {
        return Arrays.copyOf(bytes, many);
    }

    private static byte[] withByte(byte[] bytes, int at, int value) {
        byte[] other = bytes.clone();
        other[at] = (byte) value;
        return other;
    }

    private static void highestFirst() {
        check.of("Terms", "TWO, FOUR, EIGHT are so many bytes, the highest first.");
        Made m = Made.least("A");
        m.flags = 0xFF01;
        int four = m.four(3, 0xFE000001);
        int eight = m.eight(5, 0x80000000_00000003L);
        byte[] bytes = m.bytes();
        due("the first byte of a FOUR", bytes[18] & 255, 0xFE);
        due("the first byte of an EIGHT", bytes[23] & 255, 0x80);
        ClassPools x = check.with(m);
        due("TWO", x.file(0, 3), 0xFF01);
        due("FOUR", x.number(0, four), 0xFE000001);
        due("EIGHT", x.number(0, eight), 0x80000000_00000003L);
    }

    private static void placesOfThePool() {
        check.of("Terms", "TWO n, and a POOL of places 1 .. n - 1");
        byte[] least = Made.least("A").bytes();
        ClassPools x = check.with(Made.least("A"));
        due("n", x.file(0, 2), 3);
        due("place n - 1", x.entry(0, 2, 0), 7);
        due("place n", x.entry(0, 3, 0), NONE);
        check.fault("n is 1, no ENTRY is looked for", new Made().bytes(), NOTHING, 12);
        check.fault("n is one less, the flags begin sooner", Made.changed(least, 8, 2), COUNT, 20);
        check.fault("n is one more, an ENTRY is looked for", Made.changed(least, 8, 4), TAG, 17);
    }

    private static void classAbove() {
        check.of("Terms", "TWO the class above it (0: none)");
        Made m = Made.least("A");
        due("0", check.with(m).member(0, 2, 1, 0), NONE);
        m.above = m.self;
        due("a class", check.with(m).member(0, 2, 1, 0), 1);
        m.above = 1;
        check.fault("another one that is not 0", m.bytes(), OTHER, m.behind() + 4);
    }

    private static void texts() {
        check.of("Terms", "1 TEXT: TWO how many bytes, these");
        for (int size : new int[] {0, 1, 255, 256, 370}) {
            ClassPools x = check.with(Made.least("A".repeat(size)));
            due("so many bytes of a TEXT", x.entry(0, 1, 3), size);
            due("text", x.text(0, 1, 0), size);
            due("the place behind it", x.entry(0, 2, 0), 7);
        }
        byte[] least = Made.least("A").bytes();
        check.fault("more bytes than there are", Made.changed(least, 11, 65535), END, least.length);
        check.fault("more than below 0", Made.changed(least, 11, 32768), END, least.length);
        int rest = least.length - 13;
        check.fault("all bytes that there are", Made.changed(least, 11, rest), END, least.length);
        byte[] behind = withByte(Made.longer(Made.changed(least, 11, rest), 1), least.length, 99);
        check.fault("the TAG behind all these bytes", behind, TAG, least.length);
        check.fault("one more byte", Made.changed(behind, 11, rest + 1), END, behind.length);
    }

    private static void twoPlaces() {
        check.of("Terms", "they take two places, the second one is empty, as place 0 is");
        for (int tag = 5; tag <= 6; tag++) {
            Made m = Made.least("A");
            int at = m.eight(tag, -1);
            m.four(3, 77);
            ClassPools x = check.with(m);
            due("n", x.file(0, 2), 6);
            due("the place itself", x.entry(0, at, 0), tag);
            due("the place behind both", x.number(0, at + 2), 77);
            x.join();
            for (int empty : new int[] {0, at + 1}) {
                for (int what = 0; what < 4; what++) {
                    due("entry of an empty place", x.entry(0, empty, what), 0);
                }
                for (int what = 0; what < 3; what++) {
                    due("text of an empty place", x.text(0, empty, what), -37);
                }
                check.due("number of an empty place", Check.thrown(x, 0, empty), "NullPointerException");
                due("joined of an empty place", x.joined(0, empty), NONE);
            }
        }
        roomUsedAgain();
        for (int tag : new int[] {1, 3, 4, 7, 8, 9, 10, 11, 12}) {
            Made m = Made.least("A");
            int named = m.pair(12, 1, 1);
            int at = tag == 1 ? m.text("") : tag < 5 ? m.four(tag, 0) : tag < 9 ? m.one(tag, 1)
                : tag == 12 ? m.pair(tag, 1, 1) : m.pair(tag, 2, named);
            m.four(3, 77);
            ClassPools x = check.with(m);
            due("the place of tag " + tag, x.entry(0, at, 0), tag);
            due("the place behind tag " + tag, x.number(0, at + 1), 77);
        }
    }

    /** A file takes the room of another one, or of a tape with a fault, in which nothing was empty. */
    private static void roomUsedAgain() {
        Made wide = Made.least("A");
        for (int i = 0; i < 29; i++) {
            wide.eight(5, i);
        }
        ClassPools x = check.with(places(61));
        x.drop(0);
        Made.read(x, Made.longer(places(61).bytes(), 1));
        due("read", wide.read(x), 0);
        for (int i = 0; i < 61; i++) {
            due("tag of place " + i, x.entry(0, i, 0), i == 0 ? 0 : i == 1 ? 1 : i == 2 ? 7 : i % 2 == 1 ? 5 : 0);
        }
        x.drop(0);
        due("read of a short one", Made.least("B").read(x), 0);
        due("place n", x.joined(0, 3), NONE);
        due("join", x.join(), 2);
        due("no field", x.member(0, 0, 0, 0), NONE);
    }

    private static void end() {
        check.of("Terms", "1 END (place: how many bytes there are)");
        byte[] bytes = Made.rich().bytes();
        for (int n = 0; n < bytes.length; n++) {
            check.fault("the first " + n, first(bytes, n), END, n);
        }
        check.right("all of them", bytes);
    }

    /** A file with a field and a method whose first TEXT has so many bytes. */
    private static Made padded(int bytes) {
        Made m = Made.least("A".repeat(bytes));
        m.eight(5, 1);
        m.pair(12, 1, 1);
        m.face(2);
        m.member(0, 0, 1, m.text("I"), Made.attribute(1, "x")).member(1, 0, 1, m.text("()V"));
        return m.attribute(Made.attribute(1, "y"));
    }

    private static void endOfAFullTape() {
        check.of("Terms", "1 END (place: how many bytes there are)");
        int size = padded(0).bytes().length;
        for (int n = 13; n < size; n++) {
            check.fault("400 bytes, of a file's first " + n, first(padded(400 - n).bytes(), 400), END, 400);
        }
        check.right("400 bytes, all of them", padded(400 - size).bytes());
    }

    private static void magic() {
        check.of("Terms", "2 MAGIC: a byte of the first FOUR is another one (at it)");
        byte[] bytes = Made.least("A").bytes();
        for (int i = 0; i < 4; i++) {
            for (int value = 0; value < 256; value++) {
                byte[] other = withByte(bytes, i, value);
                if (value == (bytes[i] & 255)) {
                    check.right("the right byte " + i, other);
                } else {
                    check.fault("byte " + i + " is " + value, other, MAGIC, i);
                }
            }
            check.fault("the tape ends behind it", withByte(first(bytes, i + 1), i, 1), MAGIC, i);
            check.fault("the tape ends ahead of it", first(bytes, i), END, i);
            byte[] several = bytes.clone();
            Arrays.fill(several, i, 4, (byte) 0);
            check.fault("the first one of several", several, MAGIC, i);
        }
        check.right("the byte behind the FOUR", withByte(bytes, 4, 77));
    }

    /** A file with so many places, all of one place each. */
    private static Made places(int n) {
        return Made.ints(0, n - 3);
    }

    private static void countOfPlaces() {
        check.of("Terms", "3 COUNT: n is 0, or above 61");
        check.right("60", places(60).bytes());
        check.right("61", places(61).bytes());
        check.fault("62", places(62).bytes(), COUNT, 8);
        check.fault("63", places(63).bytes(), COUNT, 8);
        Made wide = Made.least("A");
        for (int i = 0; i < 29; i++) {
            wide.eight(5 + i % 2, i);
        }
        due("n with the empty places", wide.places, 61);
        check.right("61 with the empty places", wide.bytes());
        wide.four(3, 1);
        check.fault("62 with the empty places", wide.bytes(), COUNT, 8);
        byte[] least = Made.least("A").bytes();
        check.fault("0", Made.changed(least, 8, 0), COUNT, 8);
        check.fault("1 is no fault of COUNT", new Made().bytes(), NOTHING, 12);
        for (int n : new int[] {256, 256 + 3, 32768, 65535}) {
            check.fault("" + n, Made.changed(least, 8, n), COUNT, 8);
        }
        for (int n : new int[] {0, 62}) {
            byte[] two = first(Made.changed(least, 8, n), 10);
            check.fault(n + ", and the tape ends", two, COUNT, 8);
            check.fault("half of " + n, first(two, 9), END, 9);
        }
        check.fault("61, and the tape ends", first(Made.changed(least, 8, 61), 10), END, 10);
    }

    private static byte[][] attributes(int many) {
        byte[][] all = new byte[many][];
        Arrays.fill(all, Made.attribute(1, ""));
        return all;
    }

    private static Made add(Made m, int part, int many) {
        int sort = part == FIELDS ? m.text("I") : part == METHODS ? m.text("()V") : 0;
        for (int i = 0; i < many; i++) {
            if (part == FACES) {
                m.face(2);
            } else if (part == ATTRIBUTES) {
                m.attribute(Made.attribute(1, ""));
            } else {
                m.member(part - FIELDS, 0, 1, sort);
            }
        }
        return m;
    }

    private static void counts() {
        check.of("Terms", "more than 8 faces, 12 fields, methods, 6 attributes of one (at the TWO)");
        int[] most = {8, 12, 12, 6};
        for (int part = FACES; part <= ATTRIBUTES; part++) {
            Made right = add(Made.least("A"), part, most[part]);
            check.right("the most of part " + part, right.bytes());
            due("how many of part " + part, check.with(right).file(0, 4 + part), most[part]);
            Made wrong = add(Made.least("A"), part, most[part] + 1);
            check.fault("one more of part " + part, wrong.bytes(), COUNT, wrong.countAt(part));
        }
        for (int kind = 0; kind < 2; kind++) {
            String sort = kind == 0 ? "I" : "()V";
            Made right = Made.least("A");
            int s = right.text(sort);
            right.member(kind, 0, 1, s, attributes(6)).member(kind, 0, 1, s, attributes(6));
            check.right("6 attributes of each of two", right.bytes());
            due("6 of the second one", check.with(right).told(0, kind, 1, 1), 6);
            Made wrong = Made.least("A");
            s = wrong.text(sort);
            wrong.member(kind, 0, 1, s).member(kind, 0, 1, s, attributes(7));
            check.fault("7 attributes of one", wrong.bytes(), COUNT, wrong.countAt(FIELDS + kind) + 2 + 8 + 6);
        }
        Made all = Made.least("A");
        for (int part = FACES; part <= ATTRIBUTES; part++) {
            add(all, part, most[part]);
        }
        check.right("the most of all at once", all.bytes());
    }

    /** Where counts stand in a file with a field and a method. */
    private static int[] countPlaces(Made m) {
        return new int[] {m.countAt(FACES), m.countAt(FIELDS), m.countAt(FIELDS) + 2 + 6, m.countAt(METHODS),
            m.countAt(METHODS) + 2 + 6, m.countAt(ATTRIBUTES)};
    }

    private static void countsAtTheEnd() {
        check.of("Terms", "more than 8 faces, 12 fields, methods, 6 attributes of one (at the TWO)");
        Made m = Made.least("A");
        add(add(m, FIELDS, 1), METHODS, 1);
        byte[] bytes = m.bytes();
        int[] most = {8, 12, 6, 12, 6, 6};
        int[] places = countPlaces(m);
        for (int i = 0; i < places.length; i++) {
            int at = places[i];
            for (int n : new int[] {most[i] + 1, 256, 257, 32768, 65535}) {
                byte[] two = first(Made.changed(bytes, at, n), at + 2);
                check.fault(n + ", and the tape ends", two, COUNT, at);
                check.fault("half of " + n, first(two, at + 1), END, at + 1);
            }
            check.fault("the most, and the tape ends", first(Made.changed(bytes, at, most[i]), at + 2), END, at + 2);
        }
    }

    private static void tags() {
        check.of("Terms", "4 TAG: there is none such (at it)");
        byte[] least = Made.least("A").bytes();
        for (int tag = 0; tag < 256; tag++) {
            boolean none = tag == 0 || tag == 2 || tag > 12;
            byte[] other = withByte(least, 10, tag);
            check.fault("tag " + tag + ", and the tape ends", first(other, 11), none ? TAG : END, none ? 10 : 11);
            if (none) {
                check.fault("tag " + tag, other, TAG, 10);
                check.fault("tag " + tag + " behind another", withByte(least, 14, tag), TAG, 14);
            }
        }
        check.right("tags 1 to 12 without 2", Made.rich().bytes());
        check.fault("the tape ends ahead of a TAG", first(least, 10), END, 10);
    }

    private static void tagOfTwoPlaces() {
        check.of("Terms", "or one of two places in the last place (at it)");
        for (int tag = 5; tag <= 6; tag++) {
            Made m = Made.least("A");
            m.eight(tag, 1);
            byte[] bytes = m.bytes();
            check.right("in the last two places", bytes);
            check.fault("in the last one", Made.changed(bytes, 8, 4), TAG, 17);
            check.fault("in the last one, and the tape ends", first(Made.changed(bytes, 8, 4), 18), TAG, 17);
            check.fault("in the last two, and the tape ends", first(bytes, 18), END, 18);
            Made only = new Made();
            only.eight(tag, 1);
            check.fault("in places 1 and 2", only.bytes(), NOTHING, 21);
            check.fault("in place 1 of n 2", Made.changed(only.bytes(), 8, 2), TAG, 10);
            Made full = places(59);
            full.eight(tag, 1);
            check.right("in places 59 and 60 of n 61", full.bytes());
            Made over = places(60);
            over.eight(tag, 1);
            check.fault("in place 60 of n 61", Made.changed(over.bytes(), 8, 61), TAG, 10 + 7 + 57 * 5);
        }
        for (int tag = 3; tag <= 4; tag++) {
            Made m = Made.least("A");
            m.four(tag, 1);
            check.right("tag " + tag + " in the last place", m.bytes());
        }
    }

    private static void size() {
        check.of("Terms", "5 SIZE: the FOUR of an attribute is below 0 (at it)");
        Made m = Made.rich();
        byte[] bytes = m.bytes();
        int field = m.countAt(FIELDS) + 2 + 8;
        int method = m.countAt(METHODS) + 2 + 8;
        int file = m.countAt(ATTRIBUTES) + 2;
        for (int name : new int[] {field, field + 8, method, file, file + 9}) {
            int at = name + 2;
            for (int high : new int[] {0x8000, 0xFFFF}) {
                byte[] below = Made.changed(bytes, at, high);
                check.fault("below 0", below, SIZE, at);
                check.fault("-1", Made.changed(Made.changed(bytes, at, high), at + 2, 0xFFFF), SIZE, at);
                check.fault("below 0, and the tape ends", first(below, at + 4), SIZE, at);
                check.fault("three of its bytes", first(below, at + 3), END, at + 3);
            }
            byte[] most = Made.changed(Made.changed(bytes, at, 0x7FFF), at + 2, 0xFFFF);
            check.fault("the highest that is not", most, END, bytes.length);
            check.fault("the highest that is not, and the tape ends", first(most, at + 4), END, at + 4);
            check.fault("65536", Made.changed(bytes, at, 1), END, bytes.length);
        }
        int last = file + 9 + 4;
        due("the last attribute's low TWO", bytes[last + 1], 1);
        check.right("all bytes that there are", bytes);
        check.fault("one more", Made.changed(bytes, last, 2), END, bytes.length);
        check.fault("one fewer, 0", Made.changed(bytes, last, 0), MORE, bytes.length - 1);
        check.right("0", first(Made.changed(bytes, last, 0), bytes.length - 1));
    }

    private static void more() {
        check.of("Terms", "6 MORE: there are bytes behind it (at the first)");
        byte[] bytes = Made.rich().bytes();
        check.right("none", bytes);
        for (int by : new int[] {1, 2, 9}) {
            check.fault(by + " of 0", Made.longer(bytes, by), MORE, bytes.length);
            check.fault(by + " of which one is not 0", withByte(Made.longer(bytes, by), bytes.length, 0xCA), MORE, bytes.length);
        }
        byte[] full = Made.least("A".repeat(370)).bytes();
        due("a file of 400", full.length, 400);
        check.right("none behind 400", full);
        byte[] less = Made.least("A".repeat(369)).bytes();
        check.fault("one behind 399", Made.longer(less, 1), MORE, 399);
        check.of("Terms", "nothing behind them");
        check.fault("the same file twice", Arrays.copyOf(bytes, 400), MORE, bytes.length);
    }

    private static void theFirstOne() {
        check.of("Terms", "As it is read, the first one");
        Made m = Made.least("A");
        int i = m.text("I");
        int v = m.text("()V");
        m.member(0, 0, 1, i, Made.attribute(1, "a")).member(1, 0, 1, v, Made.attribute(1, "b"));
        m.attribute(Made.attribute(1, "c"));
        byte[] bytes = m.bytes();
        int b = m.behind();
        // each is a fault by itself: where it stands, a TWO that makes it, which one it is, and where it is told
        int[][] faults = {
            {2, 0, MAGIC, 2}, {8, 62, COUNT, 8}, {14, 0x0D00, TAG, 14}, {m.countAt(FACES), 9, COUNT, m.countAt(FACES)},
            {m.countAt(FIELDS), 13, COUNT, m.countAt(FIELDS)}, {m.countAt(FIELDS) + 8, 7, COUNT, m.countAt(FIELDS) + 8},
            {m.countAt(FIELDS) + 12, 0xFFFF, SIZE, m.countAt(FIELDS) + 12},
            {m.countAt(METHODS), 13, COUNT, m.countAt(METHODS)},
            {m.countAt(METHODS) + 12, 0xFFFF, SIZE, m.countAt(METHODS) + 12},
            {m.countAt(ATTRIBUTES), 7, COUNT, m.countAt(ATTRIBUTES)},
            {m.countAt(ATTRIBUTES) + 4, 0x8000, SIZE, m.countAt(ATTRIBUTES) + 4},
        };
        for (int[] f : faults) {
            byte[] one = Made.changed(bytes, f[0], f[1]);
            check.fault("alone", one, f[2], f[3]);
            for (int[] g : faults) {
                if (g[0] > f[0]) {
                    check.fault("ahead of another", Made.changed(one, g[0], g[1]), f[2], f[3]);
                }
            }
            check.fault("ahead of MORE", Made.longer(one, 3), f[2], f[3]);
            check.fault("ahead of a place, though that stands sooner", Made.changed(one, 15, 0), f[2], f[3]);
            check.fault("ahead of the class", Made.changed(one, b + 2, 99), f[2], f[3]);
        }
        check.of("Terms", "Without these, as it is gone through again");
        byte[] nowhere = Made.changed(bytes, 15, 0);
        check.fault("a place alone", nowhere, NOTHING, 15);
        check.fault("MORE ahead of a place", Made.longer(nowhere, 1), MORE, bytes.length);
        check.fault("END ahead of a place", Made.longer(nowhere, -1), END, bytes.length - 1);
    }

    private static int[] tagsOf(Made m) {
        ClassPools x = check.with(m);
        int[] tags = new int[m.places];
        for (int i = 0; i < tags.length; i++) {
            tags[i] = x.entry(0, i, 0);
        }
        return tags;
    }

    private static void placesOfEntries() {
        check.of("Terms", "7 CLASS, 8 STRING: TWO, the place of a TEXT; 9 FIELD, 10 METHOD, 11 FACE METHOD: TWO, the place of a"
            + " CLASS, TWO, that of a NAMED; 12 NAMED: TWO, TWO, the places of two TEXTS, a name and a sort.");
        int[] tags = tagsOf(Made.rich());
        for (int tag = 7; tag <= 12; tag++) {
            int first = tag >= 9 && tag <= 11 ? 7 : 1;
            int second = tag == 12 ? 1 : tag >= 9 ? 12 : 0;
            for (int i = 1; i < tags.length; i++) {
                for (int k = 1; k < (second == 0 ? 2 : tags.length); k++) {
                    Made m = Made.rich();
                    int at = m.behind() + 1;
                    if (second == 0) {
                        m.one(tag, i);
                    } else {
                        m.pair(tag, i, k);
                    }
                    String what = "tag " + tag + " tells tags " + tags[i] + ", " + tags[k];
                    boolean right = tags[i] == first && (second == 0 || tags[k] == second);
                    int wrong = tags[i] != first ? i : k;
                    if (right) {
                        due(what, m.read(new ClassPools()), 0);
                    } else {
                        check.fault(what, m.bytes(), tags[wrong] == 0 ? NOTHING : OTHER, tags[i] != first ? at : at + 2);
                    }
                }
            }
        }
    }

    private static void placesToldAtAll() {
        check.of("Terms", "(all TWOS that tell a place; the class above it, if it is not 0): the place that is told is"
            + " 7 NOTHING: empty; 8 OUTSIDE: n or above; 9 OTHER: of another TAG than it should be (at the TWO)");
        Made m = Made.rich();
        byte[] bytes = m.bytes();
        int[] tags = tagsOf(m);
        List<int[]> tells = m.tells();
        due("how many TWOS tell a place", tells.size(), 5 + 8 + 2 + 2 + 6 + 3 + 2);
        for (int[] t : tells) {
            for (int place : new int[] {m.places, m.places + 1, 61, 62, 256, 256 + t[1], 32768, 65535}) {
                check.fault("place " + place, Made.changed(bytes, t[0], place), OUTSIDE, t[0]);
            }
            for (int place = 0; place < m.places; place++) {
                byte[] other = Made.changed(bytes, t[0], place);
                int tag = tags[place];
                if (place == 0 && t[0] == m.behind() + 4) {
                    check.right("0 above it", other);
                } else if (tag == 0) {
                    check.fault("empty place " + place, other, NOTHING, t[0]);
                } else if (tag != t[1]) {
                    check.fault("tag " + tag + " for " + t[1], other, OTHER, t[0]);
                } else {
                    int answer = Made.read(new ClassPools(), other);
                    due("tag " + tag + " is the one", answer == 0 || answer == -20 - SORT ? 1 : 0, 1);
                }
            }
        }
        Made last = new Made();
        last.text("A");
        last.self = last.one(7, 1);
        check.right("place n - 1", last.bytes());
        check.fault("place n", Made.changed(last.bytes(), last.behind() + 2, 3), OUTSIDE, last.behind() + 2);
    }

    private static void placesInOrder() {
        check.of("Terms", "as it is gone through again, in its order");
        Made m = Made.rich();
        byte[] bytes = m.bytes();
        List<int[]> tells = m.tells();
        int[][] wrong = {{EMPTY, NOTHING}, {m.places, OUTSIDE}, {INT, OTHER}};
        for (int i = 0; i < tells.size(); i++) {
            int at = tells.get(i)[0];
            for (int[] w : wrong) {
                byte[] one = Made.changed(bytes, at, w[0]);
                for (int k = i + 1; k < tells.size(); k++) {
                    for (int[] v : wrong) {
                        byte[] two = Made.changed(one, tells.get(k)[0], v[0]);
                        check.fault(w[1] + " ahead of " + v[1], two, w[1], at);
                    }
                }
            }
        }
    }

    private static void sortsLast() {
        check.of("Terms", "Without these: 10 SORT: a sort of a field, then of a method, by their order, is none such"
            + " (at the TWO that tells it)");
        for (int wrong = 0; wrong < 16; wrong++) {
            Made m = Made.least("A");
            int[] sorts = {m.text("I"), m.text("()V")};
            int none = m.text("?");
            int[] at = {18 + 4, 18 + 8 + 7 + 4, 18 + 8 + 7 + 8 + 2 + 4, 18 + 8 + 7 + 8 + 2 + 8 + 4};
            for (int i = 0; i < 4; i++) {
                int sort = (wrong >> i & 1) == 1 ? none : sorts[i / 2];
                m.member(i / 2, 0, 1, sort, i == 0 ? new byte[][] {Made.attribute(1, "a")} : attributes(0));
            }
            m.attribute(Made.attribute(1, ""));
            int from = m.behind() - 8;
            String what = "sorts " + Integer.toBinaryString(wrong);
            if (wrong == 0) {
                check.right(what, m.bytes());
            } else {
                check.fault(what, m.bytes(), SORT, from + at[Integer.numberOfTrailingZeros(wrong)]);
            }
            int name = m.countAt(ATTRIBUTES) + 2;
            check.fault("a place ahead of " + what, Made.changed(m.bytes(), name, 0), NOTHING, name);
        }
        Made turned = Made.least("A");
        int method = turned.text("()V");
        turned.member(0, 0, 1, method);
        check.fault("a sort of a method for a field", turned.bytes(), SORT, turned.countAt(FIELDS) + 2 + 4);
        Made other = Made.least("A");
        other.member(1, 0, 1, other.text("I"));
        check.fault("a sort of a field for a method", other.bytes(), SORT, other.countAt(METHODS) + 2 + 4);
        check.right("the sort of a NAMED is not of a field or method", inPool().bytes());
    }

    /** Sorts that are none such, but in the pool alone. */
    private static Made inPool() {
        Made m = Made.least("A");
        int sort = m.text("?");
        int named = m.pair(12, 1, sort);
        m.pair(9, 2, named);
        m.pair(10, 2, named);
        m.pair(11, 2, named);
        return m;
    }
}
