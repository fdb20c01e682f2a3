import java.util.function.Function;
import java.util.function.Supplier;

/**
 * "what answers so changes nothing": a call is refused on one of two objects that are alike, and all that later calls
 * can show of the two is compared.
 */
public final class RefusedTest {
    private static final int LOW = Integer.MIN_VALUE, HIGH = Integer.MAX_VALUE;
    private static final String NONE = "-1", BAD = "-2", FULL = "-3";

    private static final Check check = new Check();

    private final Supplier<ClassPools> made;
    private final String due;

    /** A way to make objects that are alike. */
    private RefusedTest(String what, Supplier<ClassPools> made) {
        this.made = made;
        due = showsOf(made.get());
        check.due(what + ", made twice", showsOf(made.get()), due);
    }

    public static void main(String[] args) {
        check.of("Terms", "Calls answer the first that fits, as they name them; what answers so changes nothing:"
            + " NONE there is no such thing; BAD a number is not as told; FULL there is no room.");
        aNewObject();
        somethingOfAll();
        fullTape();
        sixFiles();
        manyMeanings();
        check.end();
    }

    /** A refused call changes nothing, be it made once or twice. */
    private void refused(String what, Function<ClassPools, Object> call, String answer) {
        ClassPools x = made.get();
        check.due(what, "" + call.apply(x), answer);
        check.due(what + ", once more", "" + call.apply(x), answer);
        check.due("behind " + what, showsOf(x), due);
    }

    /** All that calls can show of an object, the tape at last, which is read; a tape is a file that lacks its last byte. */
    private static String showsOf(ClassPools x) {
        StringBuilder s = new StringBuilder("place ").append(x.place()).append(", OUT ").append(Check.shown(x)).append(", JOINED");
        int[] few = {0, 1, 2, 3, 4, 5, 6, 7, 8, 9, 100, 148, 149, 150};
        for (int j : few) {
            s.append(' ').append(x.meaning(j, 0)).append(':').append(x.meaning(j, 1));
        }
        for (int f = 0; f < 7; f++) {
            int places = Math.min(x.file(f, 2), 10);
            s.append(", FILE ").append(x.file(f, 0)).append(' ').append(x.write(f, 1));
            for (int i = 0; i < places; i++) {
                s.append(' ').append(x.joined(f, i));
            }
            s.append(' ').append(x.alike(f, 0)).append(' ').append(x.write(f, 0));
            for (int i = 10; i < 26; i++) {
                s.append(' ').append(x.out(i));
            }
        }
        s.append(", tape ").append(x.feed(0, 1)).append(", read ").append(x.read()).append(' ').append(x.place());
        s.append(", drop ").append(x.drop(0)).append(", read ").append(x.read()).append(' ').append(x.place());
        s.append(", join ").append(x.join()).append(' ');
        for (int f = 0; f < 7; f++) {
            s.append(x.member(f, 2, 0, 0)).append(x.out(0)).append(x.out(1)).append(' ');
        }
        return s.toString();
    }

    private static void aNewObject() {
        RefusedTest t = new RefusedTest("a new object", ClassPools::new);
        check.due("a new object", t.due.startsWith("place -1, OUT , JOINED -1:-1 ") ? 1 : 0, 1);
        t.refused("feed", x -> x.feed(-1, 0), BAD);
        t.refused("drop", x -> x.drop(0), NONE);
        t.refused("file", x -> x.file(0, 0), NONE);
        t.refused("entry", x -> x.entry(0, 0, 0), NONE);
        t.refused("number", x -> Check.thrown(x, 0, 0), "IllegalArgumentException");
        t.refused("text", x -> x.text(0, 1, 0), NONE);
        t.refused("member", x -> x.member(0, 0, 0, 0), NONE);
        t.refused("told", x -> x.told(0, 0, 0, 0), NONE);
        t.refused("attribute", x -> x.attribute(0, 2, 0, 0, 0), NONE);
        t.refused("out", x -> x.out(0), NONE);
        t.refused("joined", x -> x.joined(0, 1), NONE);
        t.refused("meaning", x -> x.meaning(0, 0), NONE);
        t.refused("alike", x -> x.alike(0, 0), NONE);
        t.refused("write", x -> x.write(0, 0), NONE);
        t.refused("write in order", x -> x.write(0, 1), NONE);
        t.refused("place", ClassPools::place, NONE);
    }

    /** Its places: 1 Aa, 2 class, 3 and 4 a LONG, 5 I, 6 ()V, 7 a STRING. */
    private static Made some() {
        Made m = Made.least("Aa");
        m.eight(5, 7);
        int i = m.text("I");
        int v = m.text("()V");
        m.one(8, 1);
        m.face(2);
        m.member(0, 1, i, i, Made.attribute(1, "x")).member(1, 2, v, v, Made.attribute(1, "y"));
        return m.attribute(Made.attribute(1, "xyz"));
    }

    private static void feedButOne(ClassPools x, Made m) {
        Made.feed(x, Made.longer(m.bytes(), -1));
    }

    private static void readFault(ClassPools x) {
        x.feed(0xCAFE00, 3);
        x.read();
    }

    /** FILES, a JOINED that has one that is gone and lacks one that came later, a FAULT and an OUT; no tape. */
    private static ClassPools begun() {
        ClassPools x = new ClassPools();
        some().read(x);
        Made.least("Bb").read(x);
        Made.least("Cc").read(x);
        x.join();
        x.drop(1);
        Made.least("Ee").read(x);
        readFault(x);
        x.attribute(0, 2, 0, 0, 1);
        return x;
    }

    private static ClassPools middle() {
        ClassPools x = begun();
        feedButOne(x, Made.least("Dd"));
        return x;
    }

    private static void somethingOfAll() {
        RefusedTest t = new RefusedTest("some of all", RefusedTest::middle);
        check.due("a FAULT, OUT and JOINED", t.due.startsWith("place 2, OUT xyz, JOINED 1:1 1:1 1:0 1:1 1:1 5:1 7:1 7:0 ") ? 1 : 0, 1);
        check.due("the tape and what is read from it", t.due.contains(", tape 32, read 3 -1, drop 3, ") ? 1 : 0, 1);
        for (int wild : new int[] {LOW, -2, -1, 1000, HIGH}) {
            t.files(wild);
            t.places(wild);
            t.whats(wild);
        }
        t.files(3);
        t.places(8);
        t.bounds();
        t.several();
    }

    /** No such FILE, with all else right, or nothing right. */
    private void files(int file) {
        String s = " of FILE " + file;
        refused("drop" + s, x -> x.drop(file), NONE);
        for (int other : new int[] {0, 99}) {
            refused("file" + s, x -> x.file(file, other), NONE);
            refused("entry" + s, x -> x.entry(file, 1, other), NONE);
            refused("text" + s, x -> x.text(file, 1, other), NONE);
            refused("text" + s, x -> x.text(file, other, 0), NONE);
            refused("number" + s, x -> Check.thrown(x, file, other), "IllegalArgumentException");
            refused("member" + s, x -> x.member(file, other, other, other), NONE);
            refused("told" + s, x -> x.told(file, other, other, other), NONE);
            refused("attribute" + s, x -> x.attribute(file, other, other, other, other), NONE);
            refused("joined" + s, x -> x.joined(file, other), NONE);
            refused("write" + s, x -> x.write(file, other), NONE);
        }
        refused("write in order" + s, x -> x.write(file, 1), NONE);
        refused("alike" + s, x -> x.alike(file, 0), NONE);
        refused("alike with" + s, x -> x.alike(0, file), NONE);
    }

    /** No such place, member, attribute, byte or MEANING. */
    private void places(int i) {
        String s = " of place " + i;
        refused("entry" + s, x -> x.entry(0, i, 0), NONE);
        refused("entry" + s + ", what 4", x -> x.entry(0, i, 4), NONE);
        refused("number" + s, x -> Check.thrown(x, 0, i), "IndexOutOfBoundsException");
        refused("text" + s, x -> x.text(0, i, 0), "-38");
        refused("joined" + s, x -> x.joined(0, i), NONE);
        for (int kind = 0; kind < 3; kind++) {
            int k = kind;
            refused("member" + s, x -> x.member(0, k, i, 0), NONE);
            refused("member" + s + ", what 2", x -> x.member(0, k, i, 2), NONE);
            refused("attribute" + s, x -> x.attribute(0, k, i, 0, 0), NONE);
            refused("attribute " + i, x -> x.attribute(0, k, 0, i, 1), NONE);
            refused("attribute " + i + ", what 2", x -> x.attribute(0, k, 0, i, 2), NONE);
        }
        refused("told of a field" + s, x -> x.told(0, 0, i, 0), NONE);
        refused("told of a method" + s, x -> x.told(0, 1, i, 4), NONE);
        refused("out" + s, x -> x.out(i), NONE);
        if (i != 8) {
            refused("meaning" + s, x -> x.meaning(i, 0), NONE);
            refused("meaning" + s + ", what 2", x -> x.meaning(i, 2), NONE);
        }
    }

    /** A number that is not as told. */
    private void whats(int what) {
        String s = ", number " + what;
        refused("feed" + s, x -> x.feed(-1, what), BAD);
        refused("file" + s, x -> x.file(0, what), BAD);
        refused("entry" + s, x -> x.entry(0, 1, what), BAD);
        refused("text" + s, x -> x.text(0, 1, what), BAD);
        refused("text of no place" + s, x -> x.text(0, 99, what), BAD);
        for (int kind = 0; kind < 3; kind++) {
            int k = kind;
            refused("member" + s, x -> x.member(0, k, 0, what), BAD);
            refused("attribute" + s, x -> x.attribute(0, k, 0, 0, what), BAD);
        }
        refused("member of kind" + s, x -> x.member(0, what, 0, 0), BAD);
        refused("told" + s, x -> x.told(0, 0, 0, what), BAD);
        refused("told of kind" + s, x -> x.told(0, what, 0, 0), BAD);
        refused("attribute of kind" + s, x -> x.attribute(0, what, 0, 0, 0), BAD);
        refused("meaning" + s, x -> x.meaning(0, what), BAD);
        refused("write" + s, x -> x.write(0, what), BAD);
    }

    /** The first number behind what is told. */
    private void bounds() {
        refused("feed of 0", x -> x.feed(-1, 0), BAD);
        refused("feed of 9", x -> x.feed(-1, 9), BAD);
        refused("file, what 8", x -> x.file(0, 8), BAD);
        refused("entry, what 4", x -> x.entry(0, 1, 4), BAD);
        refused("text, what 3", x -> x.text(0, 1, 3), BAD);
        refused("member, kind 3", x -> x.member(0, 3, 0, 0), BAD);
        refused("member, what 2", x -> x.member(0, 0, 0, 2), BAD);
        refused("member, what 1 of the class", x -> x.member(0, 2, 0, 1), BAD);
        refused("member, field 1", x -> x.member(0, 0, 1, 0), NONE);
        refused("member, method 1", x -> x.member(0, 1, 1, 0), NONE);
        refused("member, no class above", x -> x.member(0, 2, 1, 0), NONE);
        refused("member, no class above, what 1", x -> x.member(0, 2, 1, 1), NONE);
        refused("member, face 1", x -> x.member(0, 2, 3, 0), NONE);
        refused("told, kind 2", x -> x.told(0, 2, 0, 0), BAD);
        refused("told, what 4", x -> x.told(0, 1, 0, 4), BAD);
        refused("told, field 1", x -> x.told(0, 0, 1, 0), NONE);
        refused("attribute, kind 3", x -> x.attribute(0, 3, 0, 0, 0), BAD);
        refused("attribute, what 2", x -> x.attribute(0, 2, 0, 0, 2), BAD);
        refused("attribute, k 1 of the FILE", x -> x.attribute(0, 2, 1, 0, 1), NONE);
        refused("attribute 1 of the FILE", x -> x.attribute(0, 2, 0, 1, 1), NONE);
        refused("attribute 1 of a field", x -> x.attribute(0, 0, 0, 1, 1), NONE);
        refused("out 3", x -> x.out(3), NONE);
        refused("meaning 10", x -> x.meaning(10, 0), NONE);
        refused("meaning, what 2", x -> x.meaning(0, 2), BAD);
        refused("write, how 2", x -> x.write(0, 2), BAD);
        refused("text of an empty place", x -> x.text(0, 4, 0), "-37");
        refused("text of place n", x -> x.text(0, 8, 1), "-38");
        refused("text of another sort", x -> x.text(0, 1, 2), "-39");
        refused("number of an empty place", x -> Check.thrown(x, 0, 4), "NullPointerException");
        refused("number of no number", x -> Check.thrown(x, 0, 1), "ClassCastException");
        refused("joined of an empty place", x -> x.joined(0, 4), NONE);
        refused("joined of one that is not among them", x -> x.joined(2, 1), NONE);
        refused("joined of a CLASS that is not among them", x -> x.joined(2, 2), NONE);
    }

    /** Refused calls of all sorts, one behind the other. */
    private void several() {
        refused("several", x -> "" + x.feed(1, 9) + x.drop(3) + x.file(0, 8) + x.entry(0, 8, 0) + Check.thrown(x, 0, 0)
            + x.text(0, 0, 0) + x.member(0, 2, 1, 0) + x.told(0, 2, 0, 0) + x.attribute(0, 2, 0, 1, 0) + x.out(3) + x.joined(0, 0)
            + x.meaning(10, 0) + x.alike(0, 3) + x.write(0, 2), "-2-1-2-1NullPointerException-37-1-2-1-1-1-1-1-2");
    }

    private static Made room(int bytes) {
        return Made.least("A".repeat(bytes - 30));
    }

    private static void fullTape() {
        check.of("Promise 2", "(400 at most): how many it has. BAD: n is not 1 .. 8; FULL.");
        RefusedTest full = new RefusedTest("400 bytes", () -> {
            ClassPools x = begun();
            Made.feed(x, room(400).bytes());
            return x;
        });
        check.due("400 bytes are full", full.due.contains(", tape -3, read 3 -1, drop 3, read -21 0, ") ? 1 : 0, 1);
        for (int n = 1; n <= 8; n++) {
            int many = n;
            full.refused("feed of " + n, x -> x.feed(-1, many), FULL);
            RefusedTest less = new RefusedTest("a tape with too little room for " + n, () -> {
                ClassPools x = begun();
                Made.feed(x, Made.longer(room(402 - many).bytes(), -1));
                return x;
            });
            if (n > 1) {
                less.refused("feed of " + n, x -> x.feed(-1, many), FULL);
            }
        }
        full.refused("feed of 9", x -> x.feed(-1, 9), BAD);
        full.refused("feed of 0", x -> x.feed(-1, 0), BAD);
    }

    /** Six FILES, a JOINED that has one that is gone and lacks two that came later, and an OUT. */
    private static ClassPools six() {
        ClassPools x = begun();
        for (int i = 3; i < 6; i++) {
            Made.least("F" + i).read(x);
        }
        return x;
    }

    private static void sixFiles() {
        check.of("Promise 3", "FULL: there are 6 (THE TAPE stays)");
        RefusedTest right = new RefusedTest("six files, and a tape", () -> {
            ClassPools x = six();
            feedButOne(x, Made.least("Gg"));
            return x;
        });
        right.refused("read", ClassPools::read, FULL);
        check.due("the tape is a file", right.due.contains(", tape 32, read -3 -1, drop 5, read 5 -1, ") ? 1 : 0, 1);
        RefusedTest empty = new RefusedTest("six files, and no tape", RefusedTest::six);
        empty.refused("read", ClassPools::read, FULL);
        RefusedTest wrong = new RefusedTest("six files, and a tape with a fault", () -> {
            ClassPools x = six();
            x.feed(0xCAFEBABF, 4);
            return x;
        });
        wrong.refused("read", ClassPools::read, FULL);
        check.due("the tape is none", wrong.due.contains(", read -3 -1, drop 5, read -22 3, ") ? 1 : 0, 1);
        right.refused("drop 6", x -> x.drop(6), NONE);
        right.refused("file 6", x -> x.file(6, 0), NONE);
        right.refused("write 6", x -> x.write(6, 1), NONE);
    }

    private static void manyMeanings() {
        check.of("Promise 14", "FULL: more than 150.");
        for (int earlier = 0; earlier <= 3; earlier++) {
            int joinedAt = earlier;
            RefusedTest t = new RefusedTest("151 meanings, joined behind " + earlier, () -> {
                ClassPools x = new ClassPools();
                int[][] files = {{0, 50}, {50, 50}, {100, 48}, {148, 1}};
                for (int i = 0; i < files.length; i++) {
                    Made.ints(files[i][0], files[i][1]).read(x);
                    if (i == joinedAt - 1) {
                        x.join();
                    }
                }
                readFault(x);
                x.text(0, 1, 0);
                feedButOne(x, Made.least("Dd"));
                return x;
            });
            t.refused("join", ClassPools::join, FULL);
            t.refused("join, and write in order", x -> "" + x.join() + x.write(9, 1), FULL + NONE);
        }
    }
}
