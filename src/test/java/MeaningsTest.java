import java.util.Arrays;

/** The terms MEANING, ORDER, JOINED, ALIKE IN MEANING and IN ORDER: each sentence, on both sides of its boundary. */
public final class MeaningsTest {
    private static final int NONE = ClassPools.NONE, FULL = ClassPools.FULL;
    private static final int LOW = Integer.MIN_VALUE, HIGH = Integer.MAX_VALUE;
    private static final long ONES = 0xFFFFFFFFL;

    private static final Check check = new Check();

    private static void due(String what, long got, long want) {
        check.due(what, got, want);
    }

    /** Puts an entry, and what it needs, into a pool: its place. */
    private interface Entry {
        int into(Made m);
    }

    public static void main(String[] args) {
        bits();
        textsOfMeanings();
        tagsOfMeanings();
        orderOfTags();
        orderOfNumbers();
        orderOfTexts();
        orderOfSeveral();
        joined();
        joinedRoom();
        alikeBehindPools();
        alikeByMeanings();
        inOrder();
        inOrderAttributes();
        check.end();
    }

    private static Entry text(String s) {
        return m -> m.text(s);
    }

    private static Entry four(int tag, int bits) {
        return m -> m.four(tag, bits);
    }

    private static Entry eight(int tag, long bits) {
        return m -> m.eight(tag, bits);
    }

    /** Tags 7 and 8: a text; 12: two; 9 to 11: three. Each entry has texts of its own. */
    private static Entry leads(int tag, String... s) {
        return m -> {
            if (tag < 9) {
                return m.one(tag, m.text(s[0]));
            }
            if (tag == 12) {
                return m.pair(tag, m.text(s[0]), m.text(s[1]));
            }
            return m.pair(tag, m.type(s[0]), m.pair(12, m.text(s[1]), m.text(s[2])));
        };
    }

    /** Two entries of one pool have one meaning, or two. */
    private static void same(String what, Entry a, Entry b, boolean one) {
        Made m = Made.least("Self");
        int i = a.into(m);
        int k = b.into(m);
        ClassPools x = check.with(m);
        int many = x.join();
        due(what + ", joined", x.joined(0, i) == x.joined(0, k) ? 1 : 0, one ? 1 : 0);
        due(what + ", in how many places", x.meaning(x.joined(0, i), 1), one ? 2 : 1);
        due(what + ", all of them", x.joined(0, i) < many ? 1 : 0, 1);
    }

    private static void unlike(String what, Entry... all) {
        for (Entry a : all) {
            for (Entry b : all) {
                same(what, a, b, a == b);
            }
        }
    }

    private static void bits() {
        check.of("Terms", "of numbers their bits");
        unlike("zeros of FLOAT", four(4, 0), four(4, LOW));
        unlike("no numbers of FLOAT", four(4, 0x7FC00000), four(4, 0x7FC00001), four(4, 0xFFC00000));
        unlike("zeros of DOUBLE", eight(6, 0), eight(6, Long.MIN_VALUE));
        unlike("no numbers of DOUBLE", eight(6, 0x7FF80000_00000000L), eight(6, 0x7FF80000_00000001L));
        unlike("INT", four(3, 0), four(3, 1), four(3, 256), four(3, 1 << 16), four(3, 1 << 24), four(3, -1));
        unlike("LONG", eight(5, 0), eight(5, 1), eight(5, 1L << 32), eight(5, ONES), eight(5, -1), eight(5, 1L << 63));
    }

    private static void textsOfMeanings() {
        check.of("Terms", "of a TEXT its bytes");
        unlike("TEXT", text(""), text("\u0000"), text("a"), text("aa"), text("b"), text("\u00ff"), text("A".repeat(70)));
        check.of("Terms", "of others the bytes of the TEXTS to which it leads (of 9 to 11 of its CLASS, its name, its sort)");
        for (int tag = 7; tag <= 8; tag++) {
            unlike("one text", leads(tag, ""), leads(tag, "a"), leads(tag, "ab"));
        }
        unlike("two texts", leads(12, "a", "bc"), leads(12, "ab", "c"), leads(12, "abc", ""), leads(12, "", "abc"),
            leads(12, "bc", "a"));
        for (int tag = 9; tag <= 11; tag++) {
            unlike("three texts", leads(tag, "a", "b", "c"), leads(tag, "ab", "", "c"), leads(tag, "a", "bc", ""),
                leads(tag, "", "ab", "c"), leads(tag, "a", "c", "b"), leads(tag, "b", "a", "c"));
        }
    }

    private static void tagsOfMeanings() {
        check.of("Terms", "A MEANING of an ENTRY: its TAG;");
        unlike("small numbers", four(3, 7), four(4, 7), eight(5, 7), eight(6, 7));
        unlike("one text", text("a"), leads(7, "b"), leads(8, "b"));
        unlike("class and string", leads(7, "a"), leads(8, "a"));
        unlike("three texts", leads(9, "a", "b", "c"), leads(10, "a", "b", "c"), leads(11, "a", "b", "c"));
    }

    /** One meaning comes ahead of another, whichever stands first: when joined, and in a pool in order. */
    private static void ahead(String what, Entry a, Entry b) {
        for (int turn = 0; turn < 2; turn++) {
            Made m = new Made();
            int late = turn == 1 ? b.into(m) : 0;
            int i = a.into(m);
            int k = turn == 1 ? late : b.into(m);
            m.self = m.type("Self");
            ClassPools x = check.with(m);
            x.join();
            due(what + ", joined, turn " + turn, Integer.compare(x.joined(0, i), x.joined(0, k)), -1);
            int first = x.joined(0, i);
            int second = x.joined(0, k);
            x.write(0, 1);
            x.back();
            due(what + ", read again", x.read(), 1);
            due(what + ", in order, turn " + turn, Integer.compare(placeOf(x, first), placeOf(x, second)), -1);
        }
    }

    private static int placeOf(ClassPools x, int meaning) {
        for (int i = 0; i < x.file(1, 2); i++) {
            if (x.joined(1, i) == meaning) {
                return i;
            }
        }
        return NONE;
    }

    private static void chain(String what, Entry... all) {
        for (int i = 0; i < all.length; i++) {
            for (int k = i + 1; k < all.length; k++) {
                ahead(what + " " + i + " and " + k, all[i], all[k]);
            }
        }
    }

    private static void orderOfTags() {
        check.of("Terms", "ORDER of MEANINGS: by TAGS");
        chain("tag", text("zz"), four(3, 9), four(4, 8), eight(5, 7), eight(6, 6), leads(7, "y"), leads(8, "x"),
            leads(9, "w", "w", "w"), leads(10, "v", "v", "v"), leads(11, "u", "u", "u"), leads(12, "a", "a"));
        chain("tag of the highest and the lowest", four(3, HIGH), four(4, LOW), eight(5, Long.MAX_VALUE), eight(6, Long.MIN_VALUE));
    }

    private static void orderOfNumbers() {
        check.of("Terms", "numbers as whole ones with sign");
        for (int tag = 3; tag <= 4; tag++) {
            chain("FOUR", four(tag, LOW), four(tag, LOW + 1), four(tag, -65536), four(tag, -2), four(tag, -1), four(tag, 0),
                four(tag, 1), four(tag, 127), four(tag, 128), four(tag, 255), four(tag, 256), four(tag, 65536), four(tag, HIGH));
        }
        for (int tag = 5; tag <= 6; tag++) {
            chain("EIGHT", eight(tag, Long.MIN_VALUE), eight(tag, Long.MIN_VALUE + 1), eight(tag, -ONES - 2), eight(tag, -ONES - 1),
                eight(tag, LOW - 1L), eight(tag, LOW), eight(tag, -1), eight(tag, 0), eight(tag, 1), eight(tag, HIGH),
                eight(tag, HIGH + 1L), eight(tag, ONES), eight(tag, ONES + 1), eight(tag, Long.MAX_VALUE));
        }
    }

    private static void orderOfTexts() {
        check.of("Terms", "TEXTS byte by byte (0 .. 255), a beginning first");
        chain("TEXT", text(""), text("\u0000"), text("\u0000\u0000"), text("\u0000\u00ff"), text("\u0001"), text("A"),
            text("A\u0000"), text("AA"), text("AAA"), text("AB"), text("A\u00ff"), text("B"), text("a"), text("\u007f"),
            text("\u007f\u00ff"), text("\u0080"), text("\u00ff"), text("\u00ff\u0000"), text("\u00ff\u00ff"));
    }

    private static void orderOfSeveral() {
        check.of("Terms", "of several TEXTS the first one that is unlike");
        for (int tag = 7; tag <= 8; tag++) {
            chain("one text", leads(tag, ""), leads(tag, "a"), leads(tag, "aa"), leads(tag, "b"), leads(tag, "\u0080"));
        }
        chain("two texts", leads(12, "", "b"), leads(12, "a", ""), leads(12, "a", "a"), leads(12, "a", "aa"),
            leads(12, "a", "z"), leads(12, "ab", "a"), leads(12, "b", "a"), leads(12, "\u0080", ""));
        for (int tag = 9; tag <= 11; tag++) {
            chain("three texts", leads(tag, "a", "a", ""), leads(tag, "a", "a", "a"), leads(tag, "a", "a", "z"),
                leads(tag, "a", "ab", "a"), leads(tag, "a", "z", "a"), leads(tag, "ab", "a", "z"), leads(tag, "b", "a", "a"));
        }
    }

    private static void joined() {
        check.of("Terms", "JOINED: the MEANINGS of all ENTRIES of all FILES, each once, in ORDER, numbered from 0 on.");
        due("no FILES", new ClassPools().join(), 0);
        ClassPools x = check.with(Made.least("B"));
        due("one FILE", x.join(), 2);
        due("the first one", x.joined(0, 1), 0);
        due("the last one", x.joined(0, 2), 1);
        Made more = Made.least("A");
        more.text("B");
        more.text("A");
        more.eight(5, 0);
        more.read(x);
        due("two FILES", x.join(), 5);
        int[] dues = {NONE, 0, 3, 1, 0, 2, NONE, NONE};
        for (int i = 0; i < dues.length; i++) {
            due("place " + i + " of the second FILE", x.joined(1, i), dues[i]);
        }
        due("place 1 of the first FILE", x.joined(0, 1), 1);
        due("place 2 of the first FILE", x.joined(0, 2), 4);
        int[] tags = {1, 1, 5, 7, 7, NONE};
        for (int j = 0; j < tags.length; j++) {
            due("tag of MEANING " + j, x.meaning(j, 0), tags[j]);
        }
        due("before the first", x.meaning(-1, 0), NONE);
    }

    private static void joinedRoom() {
        check.of("Promise 14", "FULL: more than 150.");
        int[] most = {149, 150, 151, 152};
        for (int many : most) {
            ClassPools x = check.with(Made.ints(0, 50), Made.ints(50, 50), Made.ints(100, many - 102));
            due(many + " MEANINGS", x.join(), many > 150 ? FULL : many);
            due("the last of " + many, x.meaning(many - 1, 0), many > 150 ? NONE : 7);
            due("behind the last of " + many, x.meaning(many, 0), NONE);
        }
        ClassPools same = check.with(Made.ints(0, 50), Made.ints(50, 50), Made.ints(100, 48), Made.ints(0, 50), Made.ints(120, 20));
        due("more than 150 ENTRIES of 150 MEANINGS", same.join(), 150);
        due("the places of one", same.meaning(same.joined(0, 1), 1), 5);
    }

    private static final int CHANGES = 13;

    /** A file with its pool in one order or another, and a change in what is told behind it. */
    private static Made told(boolean other, int change) {
        Made m = new Made();
        String[] s = {"A", "B", "f", "I", "()V", "At"};
        int[] t = new int[s.length];
        for (int i = 0; i < s.length; i++) {
            int k = other ? s.length - 1 - i : i;
            t[k] = m.text(s[k]);
        }
        m.self = m.one(7, t[0]);
        int b = m.one(7, t[1]);
        m.above = change == 1 ? 0 : change == 2 ? m.self : b;
        m.first = change == 3 ? 1 : 0;
        m.second = change == 4 ? 53 : 52;
        m.flags = change == 5 ? 9 : 8;
        m.face(change == 6 ? b : m.self);
        if (change == 7) {
            m.face(m.self);
        }
        m.member(0, change == 8 ? 1 : 0, t[2], t[3], Made.attribute(t[5], change == 9 ? "x" : "y"));
        m.member(change == 10 ? 0 : 1, 0, t[2], change == 10 ? t[3] : t[4]);
        m.attribute(Made.attribute(change == 11 ? t[2] : t[5], change == 12 ? "zz" : "z"));
        return m;
    }

    private static void alikeBehindPools() {
        check.of("Terms", "Two FILES are ALIKE IN MEANING, if all that is told behind their POOLS, and their versions, is alike");
        for (int i = 0; i < CHANGES; i++) {
            for (int k = 0; k < CHANGES; k++) {
                ClassPools x = check.with(told(false, i), told(true, k), told(false, k));
                due("changes " + i + " and " + k, x.alike(0, 1), i == k ? 1 : 0);
                due("changes " + i + " and " + k + " in one pool", x.alike(0, 2), i == k ? 2 : 0);
            }
        }
        Made more = told(false, 0);
        more.eight(5, 1);
        due("more in one POOL", check.with(more, told(false, 0)).alike(0, 1), 1);
        due("more in the other POOL", check.with(told(false, 0), more).alike(0, 1), 1);
    }

    /** A file whose class, name, sort and attribute are told by these places of a pool: A, A, B, class A, class A, I, I. */
    private static Made twice(int self, int name, int sort, String bytes) {
        Made m = new Made();
        m.text("A");
        m.text("A");
        m.text("B");
        m.one(7, 1);
        m.one(7, 2);
        m.text("I");
        m.text("I");
        m.self = self;
        m.member(0, 0, name, sort);
        m.attribute(Made.attribute(name, bytes));
        return m;
    }

    private static void alikeByMeanings() {
        check.of("Terms", "places counting by the MEANINGS of their ENTRIES");
        ClassPools x = check.with(twice(4, 1, 6, ""), twice(5, 1, 6, ""), twice(4, 2, 6, ""), twice(4, 1, 7, ""), twice(4, 3, 6, ""));
        int[] dues = {2, 1, 1, 1, 0};
        for (int i = 0; i < dues.length; i++) {
            due("another place, " + i, x.alike(0, i), dues[i]);
            due("another place, turned, " + i, x.alike(i, 0), dues[i]);
        }
        ClassPools y = check.with(twice(4, 1, 6, "\u0000\u0001"), twice(4, 1, 6, "\u0000\u0002"), twice(5, 2, 7, "\u0000\u0001"));
        due("bytes of attributes are no places", y.alike(0, 1), 0);
        due("the same bytes of attributes", y.alike(0, 2), 1);
        Made flags = Made.least("A");
        flags.text("A");
        flags.flags = 1;
        Made other = Made.least("A");
        other.text("A");
        other.flags = 3;
        due("flags are no places", check.with(flags, other).alike(0, 1), 0);
    }

    private static void ordered(String what, Made was, Made due) {
        ClassPools x = check.with(was);
        due(what, x.write(0, 1), due.bytes().length);
        check.due("OUT: " + what, Arrays.toString(Check.shownBytes(x)), Arrays.toString(due.bytes()));
    }

    private static void inOrder() {
        check.of("Terms", "IN ORDER is a FILE whose POOL has its MEANINGS, each once, in ORDER, places being told accordingly");
        ordered("nothing to do", Made.least("A"), Made.least("A"));
        Made twice = Made.least("A");
        while (twice.places < 61) {
            twice.one(7, 1);
        }
        ordered("59 times the same", twice, Made.least("A"));
        Made texts = new Made();
        for (int i = 0; i < 59; i++) {
            texts.text("A");
        }
        texts.self = texts.one(7, 59);
        ordered("59 times the same TEXT", texts, Made.least("A"));

        Made down = new Made();
        down.self = down.one(7, 60);
        for (int i = 58; i > 0; i--) {
            down.four(3, i);
        }
        down.text("A");
        Made up = new Made();
        up.text("A");
        for (int i = 1; i <= 58; i++) {
            up.four(3, i);
        }
        up.self = up.one(7, 1);
        due("n", up.places, 61);
        ordered("61 places, turned round", down, up);
        ordered("61 places, in order already", up, up);

        Made wide = new Made();
        wide.self = wide.one(7, 8);
        for (long l : new long[] {3, -1, 3}) {
            wide.eight(5, l);
        }
        wide.text("A");
        Made narrow = new Made();
        narrow.text("A");
        narrow.eight(5, -1);
        narrow.eight(5, 3);
        narrow.self = narrow.one(7, 1);
        due("the place behind two LONGS", narrow.self, 6);
        ordered("LONGS take two places", wide, narrow);
    }

    private static void inOrderAttributes() {
        check.of("Terms", "(bytes of attributes stay as they are)");
        Made was = new Made();
        was.self = was.one(7, 2);
        was.text("A");
        was.text("I");
        was.text("()V");
        String bytes = "\u0000\u0001\u0000\u0002\u0000\u0003";
        was.member(0, 2, 2, 3, Made.attribute(3, bytes));
        was.member(1, 3, 2, 4, Made.attribute(4, bytes), Made.attribute(2, ""));
        was.attribute(Made.attribute(2, bytes));
        Made due = new Made();
        int method = due.text("()V");
        int a = due.text("A");
        int field = due.text("I");
        due.self = due.one(7, a);
        due.member(0, 2, a, field, Made.attribute(field, bytes));
        due.member(1, 3, a, method, Made.attribute(method, bytes), Made.attribute(a, ""));
        due.attribute(Made.attribute(a, bytes));
        ordered("attributes", was, due);
        check.of("Terms", "TWO the class above it (0: none)");
        due.above = due.self;
        was.above = was.self;
        ordered("a class above it", was, due);
    }
}
