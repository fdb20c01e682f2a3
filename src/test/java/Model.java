import java.io.ByteArrayOutputStream;
import java.nio.ByteBuffer;
import java.nio.charset.StandardCharsets;
import java.util.ArrayList;
import java.util.Arrays;
import java.util.Collections;
import java.util.List;
import java.util.TreeSet;
import java.util.regex.Pattern;

/** The document once more, in the plainest way and with the whole library, to be compared with. */
final class Model {
    private static final int NONE = -1, BAD = -2, FULL = -3;
    private static final String TYPE = "\\[{0,255}+(?:[BCDFIJSZ]|L[^;]+;)";
    private static final Pattern FIELD = Pattern.compile(TYPE, Pattern.DOTALL);
    private static final Pattern METHOD = Pattern.compile("\\(((?:" + TYPE + ")*+)\\)(?:V|" + TYPE + ")", Pattern.DOTALL);

    private static final class Fault extends Exception {
        private static final long serialVersionUID = 1;
        final int kind;
        final int place;

        Fault(int kind, int place) {
            this.kind = kind;
            this.place = place;
        }
    }

    /** A meaning: its tag, and its texts or its number. */
    private record Meaning(int tag, List<String> texts, long bits) implements Comparable<Meaning> {
        @Override public int compareTo(Meaning o) {
            if (tag != o.tag) {
                return Integer.compare(tag, o.tag);
            }
            if (bits != o.bits) {
                return Long.compare(bits, o.bits);
            }
            for (int i = 0; i < texts.size(); i++) {
                int c = texts.get(i).compareTo(o.texts.get(i));
                if (c != 0) {
                    return c;
                }
            }
            return 0;
        }
    }

    private record Entry(int tag, int first, int second, String text, long bits) { }

    private record Attribute(int name, String bytes) { }

    private record MemberOf(int flags, int name, int sort, List<Attribute> attributes) { }

    private static final class Told {
        final int at;
        final int place;
        final int tag;

        Told(int at, int place, int tag) {
            this.at = at;
            this.place = place;
            this.tag = tag;
        }
    }

    private static final class File {
        final byte[] bytes;
        final Entry[] pool;
        int first;
        int second;
        int flags;
        int self;
        int above;
        final List<Integer> faces = new ArrayList<>();
        final List<List<MemberOf>> members = List.of(new ArrayList<>(), new ArrayList<>());
        List<Attribute> attributes;
        private int at = 0;
        private final List<Told> tolds = new ArrayList<>();
        private final List<List<Integer>> sortsAt = List.of(new ArrayList<>(), new ArrayList<>());

        File(byte[] bytes) throws Fault {
            this.bytes = bytes;
            for (int b : new int[] {0xCA, 0xFE, 0xBA, 0xBE}) {
                if (number(1) != b) {
                    throw new Fault(2, at - 1);
                }
            }
            first = (int) number(2);
            second = (int) number(2);
            int n = count(1, 61);
            pool = new Entry[n];
            for (int i = 1; i < n; i++) {
                pool[i] = entry(i == n - 1);
                if (pool[i].tag == 5 || pool[i].tag == 6) {
                    i++;
                }
            }
            flags = (int) number(2);
            self = told(7);
            above = (int) number(2);
            if (above != 0) {
                tolds.add(new Told(at - 2, above, 7));
            }
            int many = count(0, 8);
            for (int i = 0; i < many; i++) {
                faces.add(told(7));
            }
            for (int kind = 0; kind < 2; kind++) {
                many = count(0, 12);
                for (int i = 0; i < many; i++) {
                    int f = (int) number(2);
                    int name = told(1);
                    sortsAt.get(kind).add(at);
                    int sort = told(1);
                    members.get(kind).add(new MemberOf(f, name, sort, attributes()));
                }
            }
            attributes = attributes();
            if (at < bytes.length) {
                throw new Fault(6, at);
            }
            check();
        }

        private void check() throws Fault {
            for (Told t : tolds) {
                int wrong = wrong(t.place, t.tag);
                if (wrong != 0) {
                    throw new Fault(wrong, t.at);
                }
            }
            for (int kind = 0; kind < 2; kind++) {
                for (int k = 0; k < members.get(kind).size(); k++) {
                    String sort = pool[members.get(kind).get(k).sort].text;
                    if (!(kind == 0 ? FIELD : METHOD).matcher(sort).matches()) {
                        throw new Fault(10, sortsAt.get(kind).get(k));
                    }
                }
            }
        }

        int wrong(int place, int tag) {
            if (place < 0 || place >= pool.length) {
                return 8;
            }
            return pool[place] == null ? 7 : pool[place].tag == tag ? 0 : 9;
        }

        private long number(int many) throws Fault {
            if (bytes.length - at < many) {
                throw new Fault(1, bytes.length);
            }
            long value = 0;
            for (int i = 0; i < many; i++) {
                value = value << 8 | bytes[at++] & 255;
            }
            return value;
        }

        private String text(int many) throws Fault {
            if (bytes.length - at < many) {
                throw new Fault(1, bytes.length);
            }
            at += many;
            return new String(bytes, at - many, many, StandardCharsets.ISO_8859_1);
        }

        private int count(int least, int most) throws Fault {
            int value = (int) number(2);
            if (value < least || value > most) {
                throw new Fault(3, at - 2);
            }
            return value;
        }

        private int told(int tag) throws Fault {
            int place = (int) number(2);
            tolds.add(new Told(at - 2, place, tag));
            return place;
        }

        private Entry entry(boolean last) throws Fault {
            int tag = (int) number(1);
            if (tag == 0 || tag == 2 || tag > 12 || last && (tag == 5 || tag == 6)) {
                throw new Fault(4, at - 1);
            }
            switch (tag) {
                case 1: return new Entry(tag, 0, 0, text((int) number(2)), 0);
                case 3: case 4: return new Entry(tag, 0, 0, "", (int) number(4));
                case 5: case 6: return new Entry(tag, 0, 0, "", number(8));
                case 7: case 8: return new Entry(tag, told(1), 0, "", 0);
                case 12: return new Entry(tag, told(1), told(1), "", 0);
                default: return new Entry(tag, told(7), told(12), "", 0);
            }
        }

        private List<Attribute> attributes() throws Fault {
            List<Attribute> all = new ArrayList<>();
            int many = count(0, 6);
            for (int i = 0; i < many; i++) {
                int name = told(1);
                int size = (int) number(4);
                if (size < 0) {
                    throw new Fault(5, at - 4);
                }
                all.add(new Attribute(name, text(size)));
            }
            return all;
        }

        boolean isThere(int place) {
            return place >= 0 && place < pool.length && pool[place] != null;
        }

        Meaning meaning(int place) {
            Entry e = pool[place];
            if (e.tag == 1) {
                return new Meaning(1, List.of(e.text), 0);
            }
            List<String> texts = new ArrayList<>();
            if (e.tag >= 7) {
                texts.addAll(meaning(e.first).texts);
            }
            if (e.tag >= 9) {
                texts.addAll(meaning(e.second).texts);
            }
            return new Meaning(e.tag, texts, e.bits);
        }

        List<Meaning> meanings() {
            List<Meaning> all = new ArrayList<>();
            for (int i = 1; i < pool.length; i++) {
                if (pool[i] != null) {
                    all.add(meaning(i));
                }
            }
            return all;
        }

        private void tell(List<Object> to, List<Attribute> attributes) {
            to.add(attributes.size());
            for (Attribute a : attributes) {
                to.add(meaning(a.name));
                to.add(a.bytes);
            }
        }

        /** All that is told behind the pool, and the version. */
        List<Object> all() {
            List<Object> to = new ArrayList<>(List.of(first, second, flags, meaning(self)));
            to.add(above == 0 ? "none" : meaning(above));
            for (int f : faces) {
                to.add(meaning(f));
            }
            for (List<MemberOf> of : members) {
                to.add("members");
                for (MemberOf m : of) {
                    to.addAll(List.of(m.flags, meaning(m.name), meaning(m.sort)));
                    tell(to, m.attributes);
                }
            }
            tell(to, attributes);
            return to;
        }

        private void put(ByteArrayOutputStream to, List<Meaning> places, List<Attribute> attributes) {
            Made.put(to, attributes.size(), 2);
            for (Attribute a : attributes) {
                Made.put(to, places.indexOf(meaning(a.name)), 2);
                Made.put(to, a.bytes.length(), 4);
                to.writeBytes(Made.bytesOf(a.bytes));
            }
        }

        private static void put(ByteArrayOutputStream to, List<Meaning> places, Meaning m) {
            to.write(m.tag);
            List<String> t = m.texts;
            if (m.tag == 1) {
                Made.put(to, t.get(0).length(), 2);
                to.writeBytes(Made.bytesOf(t.get(0)));
            } else if (m.tag < 7) {
                Made.put(to, m.bits, m.tag < 5 ? 4 : 8);
            } else if (m.tag < 9 || m.tag == 12) {
                for (String s : t) {
                    Made.put(to, places.indexOf(new Meaning(1, List.of(s), 0)), 2);
                }
            } else {
                Made.put(to, places.indexOf(new Meaning(7, List.of(t.get(0)), 0)), 2);
                Made.put(to, places.indexOf(new Meaning(12, List.of(t.get(1), t.get(2)), 0)), 2);
            }
        }

        byte[] inOrder() {
            List<Meaning> places = new ArrayList<>(Collections.singletonList(null));
            for (Meaning m : new TreeSet<>(meanings())) {
                places.add(m);
                if (m.tag == 5 || m.tag == 6) {
                    places.add(null);
                }
            }
            ByteArrayOutputStream to = new ByteArrayOutputStream();
            Made.put(to, 0xCAFEBABEL, 4);
            Made.put(to, first, 2);
            Made.put(to, second, 2);
            Made.put(to, places.size(), 2);
            for (Meaning m : places) {
                if (m != null) {
                    put(to, places, m);
                }
            }
            Made.put(to, flags, 2);
            Made.put(to, places.indexOf(meaning(self)), 2);
            Made.put(to, above == 0 ? 0 : places.indexOf(meaning(above)), 2);
            Made.put(to, faces.size(), 2);
            for (int f : faces) {
                Made.put(to, places.indexOf(meaning(f)), 2);
            }
            for (List<MemberOf> of : members) {
                Made.put(to, of.size(), 2);
                for (MemberOf m : of) {
                    Made.put(to, m.flags, 2);
                    Made.put(to, places.indexOf(meaning(m.name)), 2);
                    Made.put(to, places.indexOf(meaning(m.sort)), 2);
                    put(to, places, m.attributes);
                }
            }
            put(to, places, attributes);
            return to.toByteArray();
        }
    }

    private byte[] tape = {};
    private byte[] out = {};
    private int place = NONE;
    private final List<File> files = new ArrayList<>();
    private List<Meaning> joined = List.of();

    private File at(int file) {
        return file >= 0 && file < files.size() ? files.get(file) : null;
    }

    private int shown(byte[] bytes) {
        out = bytes.clone();
        return out.length;
    }

    private int shown(String s) {
        return shown(Made.bytesOf(s));
    }

    int files() {
        return files.size();
    }

    int feed(long w, int n) {
        if (n < 1 || n > 8) {
            return BAD;
        }
        if (tape.length + n > 400) {
            return FULL;
        }
        byte[] all = ByteBuffer.allocate(8).putLong(w).array();
        int was = tape.length;
        tape = Arrays.copyOf(tape, was + n);
        System.arraycopy(all, 8 - n, tape, was, n);
        return tape.length;
    }

    int read() {
        if (files.size() == 6) {
            return FULL;
        }
        byte[] bytes = tape;
        tape = new byte[0];
        try {
            files.add(new File(bytes));
        } catch (Fault f) {
            place = f.place;
            return -20 - f.kind;
        }
        place = NONE;
        return files.size() - 1;
    }

    int place() {
        return place;
    }

    int drop(int file) {
        if (at(file) == null) {
            return NONE;
        }
        files.remove(file);
        return files.size();
    }

    int file(int file, int what) {
        File f = at(file);
        if (f == null) {
            return NONE;
        }
        if (what < 0 || what > 7) {
            return BAD;
        }
        return new int[] {f.bytes.length, 65536 * f.second + f.first, f.pool.length, f.flags, f.faces.size(),
            f.members.get(0).size(), f.members.get(1).size(), f.attributes.size()}[what];
    }

    int entry(int file, int i, int what) {
        File f = at(file);
        if (f == null || i < 0 || i >= f.pool.length) {
            return NONE;
        }
        if (what < 0 || what > 3) {
            return BAD;
        }
        Entry e = f.pool[i];
        return e == null ? 0 : new int[] {e.tag, e.first, e.second, e.text.length()}[what];
    }

    String number(int file, int i) {
        File f = at(file);
        if (f == null) {
            return "IllegalArgumentException";
        }
        if (i < 0 || i >= f.pool.length) {
            return "IndexOutOfBoundsException";
        }
        Entry e = f.pool[i];
        if (e == null) {
            return "NullPointerException";
        }
        return e.tag >= 3 && e.tag <= 6 ? "" + e.bits : "ClassCastException";
    }

    int text(int file, int i, int what) {
        File f = at(file);
        if (f == null) {
            return NONE;
        }
        if (what < 0 || what > 2) {
            return BAD;
        }
        int wrong = f.wrong(i, List.of(1, 7, 8).get(what));
        return wrong != 0 ? -30 - wrong : shown(f.meaning(i).texts.get(0));
    }

    int member(int file, int kind, int k, int what) {
        File f = at(file);
        if (f == null) {
            return NONE;
        }
        if (kind < 0 || kind > 2) {
            return BAD;
        }
        if (kind == 2) {
            List<Integer> places = new ArrayList<>(List.of(f.self, f.above));
            places.addAll(f.faces);
            if (k < 0 || k >= places.size() || places.get(k) == 0) {
                return NONE;
            }
            return what == 0 ? shown(f.meaning(places.get(k)).texts.get(0)) : BAD;
        }
        if (k < 0 || k >= f.members.get(kind).size()) {
            return NONE;
        }
        MemberOf m = f.members.get(kind).get(k);
        return what == 0 || what == 1 ? shown(f.pool[what == 0 ? m.name : m.sort].text) : BAD;
    }

    int told(int file, int kind, int k, int what) {
        File f = at(file);
        if (f == null) {
            return NONE;
        }
        if (kind < 0 || kind > 1) {
            return BAD;
        }
        if (k < 0 || k >= f.members.get(kind).size()) {
            return NONE;
        }
        MemberOf m = f.members.get(kind).get(k);
        String sort = f.pool[m.sort].text;
        String types = sort;
        if (kind == 1) {
            var matcher = METHOD.matcher(sort);
            matcher.matches();
            types = matcher.group(1);
        }
        int count = 0;
        int slots = 0;
        for (var all = FIELD.matcher(types); all.find();) {
            count++;
            slots += all.group().equals("J") || all.group().equals("D") ? 2 : 1;
        }
        if (what < 0 || what > 3) {
            return BAD;
        }
        return new int[] {m.flags, m.attributes.size(), slots, kind == 0 ? 0 : count}[what];
    }

    int attribute(int file, int kind, int k, int a, int what) {
        File f = at(file);
        if (f == null) {
            return NONE;
        }
        if (kind < 0 || kind > 2) {
            return BAD;
        }
        if (k < 0 || k >= (kind == 2 ? 1 : f.members.get(kind).size())) {
            return NONE;
        }
        List<Attribute> all = kind == 2 ? f.attributes : f.members.get(kind).get(k).attributes;
        if (a < 0 || a >= all.size()) {
            return NONE;
        }
        if (what < 0 || what > 1) {
            return BAD;
        }
        return shown(what == 0 ? f.pool[all.get(a).name].text : all.get(a).bytes);
    }

    int out(int i) {
        return i >= 0 && i < out.length ? out[i] & 255 : NONE;
    }

    int join() {
        TreeSet<Meaning> all = new TreeSet<>();
        for (File f : files) {
            all.addAll(f.meanings());
        }
        if (all.size() > 150) {
            return FULL;
        }
        joined = new ArrayList<>(all);
        return all.size();
    }

    int joined(int file, int i) {
        File f = at(file);
        return f == null || !f.isThere(i) ? NONE : joined.indexOf(f.meaning(i));
    }

    int meaning(int j, int what) {
        if (j < 0 || j >= joined.size()) {
            return NONE;
        }
        if (what < 0 || what > 1) {
            return BAD;
        }
        int sum = 0;
        for (File f : files) {
            sum += Collections.frequency(f.meanings(), joined.get(j));
        }
        return what == 0 ? joined.get(j).tag : sum;
    }

    int alike(int a, int b) {
        File f = at(a);
        File g = at(b);
        if (f == null || g == null) {
            return NONE;
        }
        return Arrays.equals(f.bytes, g.bytes) ? 2 : f.all().equals(g.all()) ? 1 : 0;
    }

    int write(int file, int how) {
        File f = at(file);
        if (f == null) {
            return NONE;
        }
        if (how < 0 || how > 1) {
            return BAD;
        }
        return shown(how == 0 ? f.bytes : f.inOrder());
    }

    int back() {
        tape = out.clone();
        return tape.length;
    }
}
