import java.io.ByteArrayOutputStream;
import java.nio.charset.StandardCharsets;

/** Makes the bytes of a file, part by part; it makes wrong ones as readily as right ones. */
final class Made {
    int first = 0;
    int second = 52;
    int places = 1;
    int flags = 0;
    int self = 0;
    int above = 0;
    private final ByteArrayOutputStream pool = new ByteArrayOutputStream();
    private final ByteArrayOutputStream faces = new ByteArrayOutputStream();
    private final ByteArrayOutputStream[] members = {new ByteArrayOutputStream(), new ByteArrayOutputStream()};
    private final ByteArrayOutputStream attributes = new ByteArrayOutputStream();
    private final int[] counts = new int[4];

    static byte[] bytesOf(String s) {
        return s.getBytes(StandardCharsets.ISO_8859_1);
    }

    static void put(ByteArrayOutputStream to, long value, int bytes) {
        for (int i = bytes - 1; i >= 0; i--) {
            to.write((int) (value >> (8 * i)));
        }
    }

    private int placed(int many) {
        places += many;
        return places - many;
    }

    int text(String s) {
        put(pool, 1, 1);
        put(pool, s.length(), 2);
        pool.writeBytes(bytesOf(s));
        return placed(1);
    }

    /** Tags 3 and 4. */
    int four(int tag, int bits) {
        put(pool, tag, 1);
        put(pool, bits, 4);
        return placed(1);
    }

    /** Tags 5 and 6. */
    int eight(int tag, long bits) {
        put(pool, tag, 1);
        put(pool, bits, 8);
        return placed(2);
    }

    /** Tags 7 and 8. */
    int one(int tag, int told) {
        put(pool, tag, 1);
        put(pool, told, 2);
        return placed(1);
    }

    /** Tags 9 to 12. */
    int pair(int tag, int told, int then) {
        put(pool, tag, 1);
        put(pool, told, 2);
        put(pool, then, 2);
        return placed(1);
    }

    /** A text and a class that tells it: the class's place. */
    int type(String name) {
        return one(7, text(name));
    }

    Made face(int place) {
        put(faces, place, 2);
        counts[2]++;
        return this;
    }

    /** An attribute as it stands in a field, in a method or in the file. */
    static byte[] attribute(int name, String bytes) {
        ByteArrayOutputStream to = new ByteArrayOutputStream();
        put(to, name, 2);
        put(to, bytes.length(), 4);
        to.writeBytes(bytesOf(bytes));
        return to.toByteArray();
    }

    Made member(int kind, int flags, int name, int sort, byte[]... attributes) {
        put(members[kind], flags, 2);
        put(members[kind], name, 2);
        put(members[kind], sort, 2);
        put(members[kind], attributes.length, 2);
        for (byte[] a : attributes) {
            members[kind].writeBytes(a);
        }
        counts[kind]++;
        return this;
    }

    Made attribute(byte[] bytes) {
        attributes.writeBytes(bytes);
        counts[3]++;
        return this;
    }

    /** Where the flags stand. */
    int behind() {
        return 10 + pool.size();
    }

    byte[] bytes() {
        ByteArrayOutputStream to = new ByteArrayOutputStream();
        put(to, 0xCAFEBABEL, 4);
        put(to, first, 2);
        put(to, second, 2);
        put(to, places, 2);
        to.writeBytes(pool.toByteArray());
        put(to, flags, 2);
        put(to, self, 2);
        put(to, above, 2);
        put(to, counts[2], 2);
        to.writeBytes(faces.toByteArray());
        for (int kind = 0; kind < 2; kind++) {
            put(to, counts[kind], 2);
            to.writeBytes(members[kind].toByteArray());
        }
        put(to, counts[3], 2);
        to.writeBytes(attributes.toByteArray());
        return to.toByteArray();
    }

    /** Feeds bytes, eight at a time: the last answer. */
    static int feed(ClassPools x, byte[] bytes) {
        int answer = 0;
        for (int at = 0; at < bytes.length; at += 8) {
            int n = Math.min(8, bytes.length - at);
            long w = 0;
            for (int i = 0; i < n; i++) {
                w = w << 8 | bytes[at + i] & 255;
            }
            answer = x.feed(w, n);
        }
        return answer;
    }

    static int read(ClassPools x, byte[] bytes) {
        feed(x, bytes);
        return x.read();
    }

    int read(ClassPools x) {
        return read(x, bytes());
    }

    /** A file with a class and nothing more; its class stands in place 2. */
    static Made least(String name) {
        Made made = new Made();
        made.self = made.type(name);
        return made;
    }
}
