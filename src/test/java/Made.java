import java.io.ByteArrayOutputStream;
import java.nio.charset.StandardCharsets;
import java.util.ArrayList;
import java.util.Arrays;
import java.util.List;

/** Makes the bytes of a file, part by part; it makes wrong ones as readily as right ones. */
final class Made {
    int first = 0;
    int second = 52;
    int places = 1;
    int flags = 0;
    int self = 0;
    int above = 0;
    private final ByteArrayOutputStream pool = new ByteArrayOutputStream();
    private final ByteArrayOutputStream faces = new ByteArrayOutputStream();
    private final ByteArrayOutputStream[] members = {new ByteArrayOutputStream(), new ByteArrayOutputStream()};
    private final ByteArrayOutputStream attributes = new ByteArrayOutputStream();
    private final int[] counts = new int[4];
    // where in its own stream a TWO tells a place, and the tag that is wanted there: pool, faces, members, attributes
    private final List<List<int[]>> tells = List.of(new ArrayList<>(), new ArrayList<>(), new ArrayList<>(), new ArrayList<>(),
        new ArrayList<>());

    static byte[] bytesOf(String s) {
        return s.getBytes(StandardCharsets.ISO_8859_1);
    }

    static void put(ByteArrayOutputStream to, long value, int bytes) {
        for (int i = bytes - 1; i >= 0; i--) {
            to.write((int) (value >> (8 * i)));
        }
    }

    private int placed(int many) {
        places += many;
        return places - many;
    }

    int text(String s) {
        put(pool, 1, 1);
        put(pool, s.length(), 2);
        pool.writeBytes(bytesOf(s));
        return placed(1);
    }

    /** Tags 3 and 4. */
    int four(int tag, int bits) {
        put(pool, tag, 1);
        put(pool, bits, 4);
        return placed(1);
    }

    /** Tags 5 and 6. */
    int eight(int tag, long bits) {
        put(pool, tag, 1);
        put(pool, bits, 8);
        return placed(2);
    }

    private static void tell(List<int[]> to, int at, int wanted) {
        to.add(new int[] {at, wanted});
    }

    /** Tags 7 and 8. */
    int one(int tag, int told) {
        put(pool, tag, 1);
        tell(tells.get(0), pool.size(), 1);
        put(pool, told, 2);
        return placed(1);
    }

    /** Tags 9 to 12. */
    int pair(int tag, int told, int then) {
        put(pool, tag, 1);
        tell(tells.get(0), pool.size(), tag == 12 ? 1 : 7);
        put(pool, told, 2);
        tell(tells.get(0), pool.size(), tag == 12 ? 1 : 12);
        put(pool, then, 2);
        return placed(1);
    }

    /** A text and a class that tells it: the class's place. */
    int type(String name) {
        return one(7, text(name));
    }

    Made face(int place) {
        tell(tells.get(1), faces.size(), 7);
        put(faces, place, 2);
        counts[2]++;
        return this;
    }

    /** An attribute as it stands in a field, in a method or in the file. */
    static byte[] attribute(int name, String bytes) {
        ByteArrayOutputStream to = new ByteArrayOutputStream();
        put(to, name, 2);
        put(to, bytes.length(), 4);
        to.writeBytes(bytesOf(bytes));
        return to.toByteArray();
    }

    Made member(int kind, int flags, int name, int sort, byte[]... attributes) {
        List<int[]> told = tells.get(2 + kind);
        put(members[kind], flags, 2);
        tell(told, members[kind].size(), 1);
        put(members[kind], name, 2);
        tell(told, members[kind].size(), 1);
        put(members[kind], sort, 2);
        put(members[kind], attributes.length, 2);
        for (byte[] a : attributes) {
            tell(told, members[kind].size(), 1);
            members[kind].writeBytes(a);
        }
        counts[kind]++;
        return this;
    }

    Made attribute(byte[] bytes) {
        tell(tells.get(4), attributes.size(), 1);
        attributes.writeBytes(bytes);
        counts[3]++;
        return this;
    }

    /** Where the flags stand. */
    int behind() {
        return 10 + pool.size();
    }

    /** Where it stands how many faces (0), fields (1), methods (2), attributes of the file (3) there are. */
    int countAt(int part) {
        int at = behind() + 6;
        int[] sizes = {faces.size(), members[0].size(), members[1].size()};
        for (int i = 0; i < part; i++) {
            at += 2 + sizes[i];
        }
        return at;
    }

    /** Every TWO that tells a place, in the file's order: where it stands, and the tag that is wanted there. */
    List<int[]> tells() {
        List<int[]> all = new ArrayList<>();
        int[] from = {10, countAt(0) + 2, countAt(1) + 2, countAt(2) + 2, countAt(3) + 2};
        for (int part = 0; part < from.length; part++) {
            for (int[] t : tells.get(part)) {
                tell(all, from[part] + t[0], t[1]);
            }
            if (part == 0) {
                tell(all, behind() + 2, 7);
                tell(all, behind() + 4, 7);
            }
        }
        return all;
    }

    byte[] bytes() {
        ByteArrayOutputStream to = new ByteArrayOutputStream();
        put(to, 0xCAFEBABEL, 4);
        put(to, first, 2);
        put(to, second, 2);
        put(to, places, 2);
        to.writeBytes(pool.toByteArray());
        put(to, flags, 2);
        put(to, self, 2);
        put(to, above, 2);
        put(to, counts[2], 2);
        to.writeBytes(faces.toByteArray());
        for (int kind = 0; kind < 2; kind++) {
            put(to, counts[kind], 2);
            to.writeBytes(members[kind].toByteArray());
        }
        put(to, counts[3], 2);
        to.writeBytes(attributes.toByteArray());
        return to.toByteArray();
    }

    /** Feeds bytes, eight at a time: the last answer. */
    static int feed(ClassPools x, byte[] bytes) {
        int answer = 0;
        for (int at = 0; at < bytes.length; at += 8) {
            int n = Math.min(8, bytes.length - at);
            long w = 0;
            for (int i = 0; i < n; i++) {
                w = w << 8 | bytes[at + i] & 255;
            }
            answer = x.feed(w, n);
        }
        return answer;
    }

    static int read(ClassPools x, byte[] bytes) {
        feed(x, bytes);
        return x.read();
    }

    int read(ClassPools x) {
        return read(x, bytes());
    }

    /** A file with a class and nothing more; its class stands in place 2. */
    static Made least(String name) {
        Made made = new Made();
        made.self = made.type(name);
        return made;
    }

    /** A file of a class with so many INTS from place 3 on, each one more than the last. */
    static Made ints(int from, int many) {
        Made m = least("A");
        for (int i = 0; i < many; i++) {
            m.four(3, from + i);
        }
        return m;
    }

    /** A file that has some of everything. */
    static Made rich() {
        Made m = new Made();
        m.first = 3;
        m.second = 61;
        m.flags = 0x8421;
        int name = m.text("f");
        int sort = m.text("J");
        m.self = m.type("Self");
        m.above = m.type("Above");
        m.face(m.type("FaceA")).face(m.type("FaceB"));
        int code = m.text("Code");
        int run = m.text("(IJ[D[[LX;D)V");
        m.eight(5, -2);
        m.four(3, -3);
        m.four(4, 0x80000001);
        m.eight(6, Long.MIN_VALUE);
        m.one(8, name);
        int named = m.pair(12, name, sort);
        m.pair(9, m.self, named);
        m.pair(10, m.above, named);
        m.pair(11, m.self, named);
        m.member(0, 0x1234, name, sort, attribute(code, "ab"), attribute(name, ""));
        m.member(0, 1, code, sort);
        m.member(1, 0xFFFF, name, run, attribute(code, "\u0000\u00ff1"));
        m.attribute(attribute(code, "xyz")).attribute(attribute(name, "\u0080"));
        return m;
    }

    /** The bytes with another TWO at a place. */
    static byte[] changed(byte[] bytes, int at, int two) {
        byte[] other = bytes.clone();
        other[at] = (byte) (two >> 8);
        other[at + 1] = (byte) two;
        return other;
    }

    /** The bytes and so many more of 0, or so many fewer. */
    static byte[] longer(byte[] bytes, int by) {
        return Arrays.copyOf(bytes, bytes.length + by);
    }
}
