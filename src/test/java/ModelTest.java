import java.util.ArrayList;
import java.util.Collections;
import java.util.List;
import java.util.Random;

/** Runs of calls from fixed seeds: the class and the model answer alike. */
public final class ModelTest {
    private static final int RUNS = 4000;
    private static final int CALLS = 512;
    private static final String[] NAMES = {"", "a", "b", "ab", "abc", "\u00ff", "Code", "\u0000", "()V", "LA;"};
    private static final String[] FIELDS = {"I", "J", "D", "[J", "LA;", "[[LBc;", "Z", "[[[[D"};
    private static final String[] METHODS = {"()V", "(I)V", "(JD)J", "([JLA;D)LA;", "(BCDFIJSZ)[I", "()D"};
    private static final String[] WRONG = {"", "V", "(V)V", "[", "L;", "II", "(I", "()"};

    private final Random random;
    private final Check check;
    private final String run;
    private final ClassPools x = new ClassPools();
    private final Model model = new Model();
    private final List<byte[]> kept;
    private int calls = 0;

    private ModelTest(int seed, Check check, List<byte[]> kept) {
        random = new Random(seed);
        this.check = check;
        this.kept = kept;
        run = "seed " + seed + ": ";
    }

    public static void main(String[] args) {
        Check check = new Check();
        List<byte[]> kept = new ArrayList<>();
        for (int seed = 1; seed <= RUNS; seed++) {
            new ModelTest(seed, check, kept).go();
        }
        check.end();
    }

    private int below(int n) {
        return random.nextInt(n);
    }

    private boolean once(int n) {
        return below(n) == 0;
    }

    private <T> T any(T[] of) {
        return of[below(of.length)];
    }

    private int any(List<Integer> of) {
        return of.get(below(of.size()));
    }

    /** A small number, now and then one that is out of all bounds. */
    private int index(int n) {
        return once(30) ? new int[] {-1, Integer.MIN_VALUE, Integer.MAX_VALUE, 65536, -n, n + 1}[below(6)] : below(n + 1);
    }

    private byte[] file() {
        Made m = new Made();
        m.first = below(2);
        m.second = once(9) ? 0xFFFF : 52;
        m.flags = below(3);
        int spread = once(3) ? 1000 : 5;
        List<Runnable> steps = new ArrayList<>();
        List<Integer> texts = new ArrayList<>();
        List<Integer> fields = new ArrayList<>();
        List<Integer> methods = new ArrayList<>();
        List<Integer> classes = new ArrayList<>();
        List<Integer> named = new ArrayList<>();
        fields.add(m.text(any(FIELDS)));
        methods.add(m.text(any(METHODS)));
        texts.add(m.text(any(NAMES)));
        classes.add(m.one(7, any(texts)));
        named.add(m.pair(12, any(texts), any(fields)));
        int many = below(once(3) ? 40 : 14);
        for (int i = 0; i < many; i++) {
            steps.clear();
            Collections.addAll(steps,
                () -> texts.add(m.text(any(NAMES))), () -> fields.add(m.text(any(FIELDS))),
                () -> methods.add(m.text(any(METHODS))), () -> classes.add(m.one(7, any(texts))),
                () -> m.one(8, any(texts)), () -> named.add(m.pair(12, any(texts), any(fields))),
                () -> m.pair(9 + below(3), any(classes), any(named)), () -> m.four(3 + below(2), below(spread) - 2),
                () -> m.eight(5 + below(2), (below(spread) - 2L) << (once(2) ? 31 : 0)),
                () -> m.four(3, below(spread) - 2));
            if (once(200)) {
                fields.add(m.text(any(WRONG)));
                methods.add(m.text(any(WRONG)));
            }
            steps.get(below(steps.size())).run();
        }
        m.self = any(classes);
        m.above = once(2) ? 0 : any(classes);
        for (int i = below(3); i > 0; i--) {
            m.face(any(classes));
        }
        for (int kind = 0; kind < 2; kind++) {
            for (int i = below(3); i > 0; i--) {
                m.member(kind, below(2), any(texts), any(kind == 0 ? fields : methods), attributes(texts));
            }
        }
        for (byte[] a : attributes(texts)) {
            m.attribute(a);
        }
        return m.bytes();
    }

    private byte[][] attributes(List<Integer> texts) {
        byte[][] all = new byte[below(3)][];
        for (int i = 0; i < all.length; i++) {
            all[i] = Made.attribute(any(texts), any(NAMES));
        }
        return all;
    }

    private void feed() {
        byte[] bytes = once(3) && !kept.isEmpty() ? kept.get(below(kept.size())).clone() : file();
        kept.add(bytes.clone());
        if (kept.size() > 20) {
            kept.remove(0);
        }
        if (once(2)) {
            for (int i = once(2) ? 1 : 3; i > 0; i--) {
                bytes[below(bytes.length)] = (byte) (once(3) ? random.nextInt() : below(20));
            }
        }
        int size = once(12) ? below(bytes.length + 1) : bytes.length;
        for (int at = 0; at < size; at += 8) {
            int n = Math.min(8, size - at);
            long w = random.nextLong();
            for (int i = 0; i < n; i++) {
                w = w << 8 | bytes[at + i] & 255;
            }
            due("feed", x.feed(w, n), model.feed(w, n));
        }
        if (once(20)) {
            due("feed more", x.feed(0, 1), model.feed(0, 1));
        }
        read();
    }

    private void read() {
        due("read", x.read(), model.read());
        due("place", x.place(), model.place());
    }

    private void due(String what, long got, long want) {
        calls++;
        check.due(run + what, got, want);
    }

    private void go() {
        feed();
        while (calls < CALLS - 110) {
            if (once(25)) {
                feed();
            } else {
                call();
            }
        }
        for (int i = 0; calls < CALLS; i++) {
            due("out " + i, x.out(i), model.out(i));
        }
    }

    private void call() {
        int f = once(20) ? index(6) : below(Math.max(1, model.files()));
        int i = index(24);
        int kind = once(9) ? index(3) : below(3);
        int k = once(2) ? 0 : index(2);
        int a = once(2) ? 0 : index(2);
        int what = once(2) ? below(2) : index(3);
        String with = " " + f + ", " + i + ", " + kind + ", " + k + ", " + a + ", " + what;
        switch (below(19)) {
            case 0: due("file" + with, x.file(f, i), model.file(f, i)); break;
            case 1: due("entry" + with, x.entry(f, i, what), model.entry(f, i, what)); break;
            case 2: calls++; check.due(run + "number" + with, Check.thrown(x, f, i), model.number(f, i)); break;
            case 3: due("text" + with, x.text(f, i, what), model.text(f, i, what)); break;
            case 4: due("member" + with, x.member(f, kind, k, what), model.member(f, kind, k, what)); break;
            case 5: due("told" + with, x.told(f, kind, k, what), model.told(f, kind, k, what)); break;
            case 6: due("attribute" + with, x.attribute(f, kind, k, a, what), model.attribute(f, kind, k, a, what)); break;
            case 7: case 16: due("join", x.join(), model.join()); break;
            case 8: case 9: due("joined" + with, x.joined(f, i), model.joined(f, i)); break;
            case 10: due("meaning" + with, x.meaning(i, what), model.meaning(i, what)); break;
            case 11: due("alike" + with, x.alike(f, k), model.alike(f, k)); break;
            case 12: due("write" + with, x.write(f, a), model.write(f, a)); break;
            case 13: due("back", x.back(), model.back()); break;
            case 14:
                if (once(3)) {
                    due("drop" + with, x.drop(f), model.drop(f));
                }
                break;
            case 15: writeAndRead(f); break;
            default: due("out" + with, x.out(i), model.out(i)); break;
        }
    }

    private void writeAndRead(int f) {
        due("write", x.write(f, 1), model.write(f, 1));
        due("back", x.back(), model.back());
        read();
        for (int other = 0; other < 6; other++) {
            due("alike", x.alike(f, other), model.alike(f, other));
        }
    }
}
