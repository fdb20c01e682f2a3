import java.util.Arrays;

/** Files of classes with pools: DOC.md says what each call promises. */
public final class ClassPools {
    public static final int NONE = -1, BAD = -2, FULL = -3;

    private static final int TAPE_ROOM = 400;
    private static final int FILES_ROOM = 6;
    private static final int POOL_ROOM = 61;
    private static final int FACES_ROOM = 8;
    private static final int MEMBERS_ROOM = 12;
    private static final int ATTRIBUTES_ROOM = 6;
    private static final int JOINED_ROOM = 150;
    private static final int DEPTH_ROOM = 255;
    // each TWO that tells a place takes two bytes of its own
    private static final int TELLS_ROOM = TAPE_ROOM / 2;

    private static final int TEXT = 1, INT = 3, FLOAT = 4, LONG = 5, DOUBLE = 6, CLASS = 7,
        STRING = 8, FIELD = 9, METHOD = 10, FACE_METHOD = 11, NAMED = 12;

    private static final int END = 1, MAGIC = 2, COUNT = 3, TAG = 4, SIZE = 5, MORE = 6,
        NOTHING = 7, OUTSIDE = 8, OTHER = 9, SORT = 10;

    private static final int OF_FIELDS = 0, OF_METHODS = 1, OF_FILE = 2;

    private static final int MAGIC_FOUR = 0xCAFEBABE;
    private static final int VERSION_AT = 4, COUNT_AT = 8;

    private final Row tape = new Row();
    private final Row shown = new Row();
    // the places from count on are spare: the next read goes into the first of them
    private final ClassFile[] files = new ClassFile[FILES_ROOM];
    private int count = 0;
    private int faultPlace = NONE;
    private Ranking reckoned = new Ranking();
    private Ranking trial = new Ranking();
    private final Writer writer = new Writer();

    public ClassPools() {
        for (int i = 0; i < files.length; i++) {
            files[i] = new ClassFile();
        }
    }

    public int feed(long w, int n) {
        if (n < 1 || n > 8) {
            return BAD;
        }
        if (n > TAPE_ROOM - tape.size()) {
            return FULL;
        }
        for (int i = n - 1; i >= 0; i--) {
            tape.push((int) (w >> (8 * i)));
        }
        return tape.size();
    }

    public int read() {
        if (count < 0 || count >= files.length) {
            return FULL;
        }
        ClassFile next = files[count];
        next.begin(tape);
        tape.clear();
        Reader reader = new Reader(next);
        reader.scan();
        reader.checkTells();
        reader.checkSorts(OF_FIELDS);
        reader.checkSorts(OF_METHODS);
        faultPlace = reader.where;
        if (reader.fault != 0) {
            return -20 - reader.fault;
        }
        count++;
        return count - 1;
    }

    public int place() {
        return faultPlace;
    }

    public int drop(int file) {
        ClassFile gone = fileAt(file);
        if (gone == null) {
            return NONE;
        }
        for (int i = file; i >= 0 && i + 1 < files.length; i++) {
            files[i] = files[i + 1];
        }
        files[files.length - 1] = gone;
        count--;
        return count;
    }

    public int file(int file, int what) {
        ClassFile f = fileAt(file);
        if (f == null) {
            return NONE;
        }
        switch (what) {
            case 0: return f.row.size();
            case 1: return (f.row.two(VERSION_AT + 2) << 16) + f.row.two(VERSION_AT);
            case 2: return f.pool.places();
            case 3: return f.row.two(f.behind);
            case 4: return f.faces();
            case 5: return f.members(OF_FIELDS);
            case 6: return f.members(OF_METHODS);
            case 7: return f.row.two(f.attributesAt);
            default: return BAD;
        }
    }

    public int entry(int file, int i, int what) {
        ClassFile f = fileAt(file);
        if (f == null || !f.pool.has(i)) {
            return NONE;
        }
        switch (what) {
            case 0: return f.pool.tag(i);
            case 1: return f.pool.first(i);
            case 2: return f.pool.second(i);
            case 3: return f.pool.textSize(i);
            default: return BAD;
        }
    }

    public long number(int file, int i) throws IllegalArgumentException, IndexOutOfBoundsException,
            NullPointerException, ClassCastException {
        ClassFile f = fileAt(file);
        if (f == null) {
            throw new IllegalArgumentException("no such file");
        }
        if (!f.pool.has(i)) {
            throw new IndexOutOfBoundsException("no such place");
        }
        int tag = f.pool.tag(i);
        if (tag == 0) {
            throw new NullPointerException("the place is empty");
        }
        if (!isNumber(tag)) {
            throw new ClassCastException("no number is there");
        }
        return f.pool.bits(i);
    }

    public int text(int file, int i, int what) {
        ClassFile f = fileAt(file);
        if (f == null) {
            return NONE;
        }
        if (what < 0 || what > 2) {
            return BAD;
        }
        int wanted = what == 0 ? TEXT : what == 1 ? CLASS : STRING;
        int wrong = f.pool.wrong(i, wanted);
        if (wrong != 0) {
            return -30 - wrong;
        }
        return showText(f, f.pool.textOf(i, 0));
    }

    public int member(int file, int kind, int k, int what) {
        ClassFile f = fileAt(file);
        if (f == null) {
            return NONE;
        }
        if (kind == OF_FILE) {
            return showClass(f, k, what);
        }
        if (kind != OF_FIELDS && kind != OF_METHODS) {
            return BAD;
        }
        int at = f.memberAt(kind, k);
        if (at == NONE) {
            return NONE;
        }
        if (what != 0 && what != 1) {
            return BAD;
        }
        return showText(f, f.row.two(at + 2 + 2 * what));
    }

    public int told(int file, int kind, int k, int what) {
        ClassFile f = fileAt(file);
        if (f == null) {
            return NONE;
        }
        if (kind != OF_FIELDS && kind != OF_METHODS) {
            return BAD;
        }
        int at = f.memberAt(kind, k);
        if (at == NONE) {
            return NONE;
        }
        int sort = f.row.two(at + 4);
        int from = f.pool.textAt(sort);
        int end = from + f.pool.textSize(sort);
        switch (what) {
            case 0: return f.row.two(at);
            case 1: return f.row.two(at + 6);
            case 2: return kind == OF_FIELDS ? Sorts.width(f.row, from) : Sorts.sum(f.row, from, end, true);
            case 3: return kind == OF_FIELDS ? 0 : Sorts.sum(f.row, from, end, false);
            default: return BAD;
        }
    }

    public int attribute(int file, int kind, int k, int a, int what) {
        ClassFile f = fileAt(file);
        if (f == null) {
            return NONE;
        }
        if (kind != OF_FIELDS && kind != OF_METHODS && kind != OF_FILE) {
            return BAD;
        }
        int at = f.attributeAt(kind, k, a);
        if (at == NONE) {
            return NONE;
        }
        switch (what) {
            case 0: return showText(f, f.row.two(at));
            case 1: return shown.take(f.row, at + 6, f.row.four(at + 2));
            default: return BAD;
        }
    }

    public int out(int i) {
        return shown.has(i, 1) ? shown.one(i) : NONE;
    }

    // ---- pools joined

    public int join() {
        trial.clear();
        boolean fits = true;
        for (int i = 0; i < count && fits; i++) {
            ClassFile f = fileAt(i);
            fits = f != null && trial.add(f.pool);
        }
        if (!fits) {
            return FULL;
        }
        Ranking earlier = reckoned;
        reckoned = trial;
        trial = earlier;
        return reckoned.size();
    }

    public int joined(int file, int i) {
        ClassFile f = fileAt(file);
        if (f == null || f.pool.tag(i) == 0) {
            return NONE;
        }
        return reckoned.find(f.pool, i);
    }

    public int meaning(int j, int what) {
        if (j < 0 || j >= reckoned.size()) {
            return NONE;
        }
        switch (what) {
            case 0: return reckoned.tag(j);
            case 1: return placesOf(j);
            default: return BAD;
        }
    }

    public int alike(int a, int b) {
        ClassFile f = fileAt(a);
        ClassFile g = fileAt(b);
        if (f == null || g == null) {
            return NONE;
        }
        if (f.row.order(0, f.row.size(), g.row, 0, g.row.size()) == 0) {
            return 2;
        }
        return f.meansAs(g) ? 1 : 0;
    }

    public int write(int file, int how) {
        ClassFile f = fileAt(file);
        if (f == null) {
            return NONE;
        }
        if (how == 0) {
            return shown.take(f.row, 0, f.row.size());
        }
        if (how != 1) {
            return BAD;
        }
        trial.clear();
        trial.add(f.pool);
        int places = writer.movePlaces(f, trial);
        return writer.push(f, trial, places, shown);
    }

    public int back() {
        return tape.take(shown, 0, shown.size());
    }

    private ClassFile fileAt(int file) {
        return file >= 0 && file < count && file < files.length ? files[file] : null;
    }

    private int showText(ClassFile f, int place) {
        return shown.take(f.row, f.pool.textAt(place), f.pool.textSize(place));
    }

    private int showClass(ClassFile f, int k, int what) {
        int place = f.classPlace(k);
        if (place == 0) {
            return NONE;
        }
        return what == 0 ? showText(f, f.pool.textOf(place, 0)) : BAD;
    }

    private int placesOf(int j) {
        int sum = 0;
        for (int i = 0; i < count; i++) {
            ClassFile f = fileAt(i);
            if (f != null) {
                sum += reckoned.tally(j, f.pool);
            }
        }
        return sum;
    }

    private static boolean isNumber(int tag) {
        return tag >= INT && tag <= DOUBLE;
    }

    private static boolean isWide(int tag) {
        return tag == LONG || tag == DOUBLE;
    }

    private static boolean isTag(int tag) {
        return tag == TEXT || tag >= INT && tag <= NAMED;
    }

    /** Bytes, at most as many as the tape may have; what is asked for outside of them is 0. */
    private static final class Row {
        private final byte[] bytes = new byte[TAPE_ROOM];
        private int size = 0;

        int size() {
            return size;
        }

        boolean has(int from, int many) {
            return from >= 0 && many >= 0 && from <= size && many <= size - from;
        }

        int one(int i) {
            return i >= 0 && i < size && i < bytes.length ? bytes[i] & 255 : 0;
        }

        int two(int i) {
            if (i < 0 || i >= size - 1 || i >= bytes.length - 1) {
                return 0;
            }
            return (bytes[i] & 255) << 8 | bytes[i + 1] & 255;
        }

        int four(int i) {
            return two(i) << 16 | two(i + 2);
        }

        void clear() {
            size = 0;
        }

        void push(int value) {
            if (size >= 0 && size < bytes.length) {
                bytes[size] = (byte) value;
                size++;
            }
        }

        void pushTwo(int value) {
            push(value >> 8);
            push(value);
        }

        void putTwo(int i, int value) {
            if (has(i, 2) && i + 1 < bytes.length) {
                bytes[i] = (byte) (value >> 8);
                bytes[i + 1] = (byte) value;
            }
        }

        void append(Row from, int at, int many) {
            if (from.has(at, many) && many <= bytes.length - size) {
                System.arraycopy(from.bytes, at, bytes, size, many);
                size += many;
            }
        }

        int take(Row from, int at, int many) {
            clear();
            append(from, at, many);
            return size;
        }

        int order(int at, int many, Row other, int otherAt, int otherMany) {
            int shorter = Math.min(many, otherMany);
            for (int i = 0; i < shorter; i++) {
                int unlike = Integer.compare(one(at + i), other.one(otherAt + i));
                if (unlike != 0) {
                    return unlike;
                }
            }
            return Integer.compare(many, otherMany);
        }
    }

    /** The ENTRIES of a FILE, found in the FILE's own bytes. */
    private static final class Pool {
        final Row row = new Row();
        // where an ENTRY's TAG stands; 0, where the magic stands, means empty
        private final int[] starts = new int[POOL_ROOM];
        private int places = 0;

        int places() {
            return places;
        }

        boolean has(int i) {
            return i >= 0 && i < places && i < starts.length;
        }

        void begin(int many) {
            // the row was perhaps used before, for a FILE that is gone
            Arrays.fill(starts, 0);
            places = many;
        }

        void set(int i, int at) {
            if (has(i)) {
                starts[i] = at;
            }
        }

        void copy(Pool from) {
            row.take(from.row, 0, from.row.size());
            System.arraycopy(from.starts, 0, starts, 0, POOL_ROOM);
            places = from.places;
        }

        int start(int i) {
            return i >= 0 && i < places && i < starts.length ? starts[i] : 0;
        }

        int tag(int i) {
            int at = start(i);
            return at == 0 ? 0 : row.one(at);
        }

        /** The TWO that stands so many bytes behind the TAG. */
        private int twoOf(int i, int bytes) {
            int at = start(i);
            return at == 0 ? 0 : row.two(at + bytes);
        }

        int first(int i) {
            return tag(i) >= CLASS ? twoOf(i, 1) : 0;
        }

        int second(int i) {
            return tag(i) >= FIELD ? twoOf(i, 3) : 0;
        }

        int textAt(int i) {
            return start(i) + 3;
        }

        int textSize(int i) {
            return tag(i) == TEXT ? twoOf(i, 1) : 0;
        }

        long bits(int i) {
            int at = start(i);
            int tag = tag(i);
            if (!isNumber(tag)) {
                return 0;
            }
            int high = row.four(at + 1);
            return isWide(tag) ? (long) high << 32 | row.four(at + 5) & 0xFFFFFFFFL : high;
        }

        int bytesOf(int i) {
            switch (tag(i)) {
                case TEXT: return 3 + textSize(i);
                case LONG: case DOUBLE: return 9;
                case CLASS: case STRING: return 3;
                default: return 5;
            }
        }

        int wrong(int i, int wanted) {
            if (!has(i)) {
                return OUTSIDE;
            }
            int tag = tag(i);
            if (tag == 0) {
                return NOTHING;
            }
            return tag == wanted ? 0 : OTHER;
        }

        /** The place of a TEXT to which place i leads: the first, second or third one (part 0, 1, 2). */
        int textOf(int i, int part) {
            switch (tag(i)) {
                case TEXT: return i;
                case CLASS: case STRING: return twoOf(i, 1);
                case NAMED: return twoOf(i, part == 0 ? 1 : 3);
                case FIELD: case METHOD: case FACE_METHOD:
                    return part == 0 ? twoOf(twoOf(i, 1), 1) : twoOf(twoOf(i, 3), part == 1 ? 1 : 3);
                default: return 0;
            }
        }

        int order(int i, Pool other, int j) {
            int tag = tag(i);
            int unlike = Integer.compare(tag, other.tag(j));
            if (unlike != 0) {
                return unlike;
            }
            if (isNumber(tag)) {
                return Long.compare(bits(i), other.bits(j));
            }
            int parts = tag == NAMED ? 2 : tag >= FIELD ? 3 : 1;
            for (int part = 0; part < parts && unlike == 0; part++) {
                int a = textOf(i, part);
                int b = other.textOf(j, part);
                unlike = row.order(textAt(a), textSize(a), other.row, other.textAt(b), other.textSize(b));
            }
            return unlike;
        }
    }

    /** A FILE: its bytes, its POOL, and where in the bytes its parts begin. */
    private static final class ClassFile {
        final Pool pool = new Pool();
        final Row row = pool.row;
        int behind = 0;
        int attributesAt = 0;
        private final int[][] memberStarts = new int[2][MEMBERS_ROOM];
        private final int[] memberCounts = new int[2];
        // every TWO that tells a place, in the FILE's order, and the TAG that is wanted there
        private final int[] tells = new int[TELLS_ROOM];
        private final int[] wants = new int[TELLS_ROOM];
        private int tellCount = 0;

        void begin(Row tape) {
            row.take(tape, 0, tape.size());
            pool.begin(0);
            behind = 0;
            attributesAt = 0;
            tellCount = 0;
            Arrays.fill(memberCounts, 0);
        }

        void addTell(int at, int wanted) {
            if (tellCount >= 0 && tellCount < TELLS_ROOM) {
                tells[tellCount] = at;
                wants[tellCount] = wanted;
                tellCount++;
            }
        }

        int tellCount() {
            return tellCount;
        }

        int tellAt(int t) {
            return t >= 0 && t < tellCount && t < TELLS_ROOM ? tells[t] : 0;
        }

        int wanted(int t) {
            return t >= 0 && t < tellCount && t < TELLS_ROOM ? wants[t] : 0;
        }

        /** The number of the first of the TWOS that tell a place behind THE POOL. */
        int firstBehind() {
            for (int t = 0; t < tellCount; t++) {
                if (tellAt(t) >= behind) {
                    return t;
                }
            }
            return tellCount;
        }

        void addMember(int kind, int at) {
            int k = members(kind);
            if ((kind == OF_FIELDS || kind == OF_METHODS) && k >= 0 && k < MEMBERS_ROOM) {
                memberStarts[kind][k] = at;
                memberCounts[kind] = k + 1;
            }
        }

        int members(int kind) {
            return kind == OF_FIELDS || kind == OF_METHODS ? memberCounts[kind] : 0;
        }

        int memberAt(int kind, int k) {
            return k >= 0 && k < members(kind) && k < MEMBERS_ROOM ? memberStarts[kind][k] : NONE;
        }

        int faces() {
            return row.two(behind + 6);
        }

        /** The place of the class itself (0), the one above it (1), a face (2 on); 0: no such. */
        int classPlace(int k) {
            if (k < 0 || k - 2 >= faces()) {
                return 0;
            }
            return row.two(behind + (k < 2 ? 2 + 2 * k : 4 + 2 * k));
        }

        /** Where it stands how many attributes a member, or the FILE, has. */
        private int attributesOf(int kind, int k) {
            if (kind == OF_FILE) {
                return k == 0 ? attributesAt : NONE;
            }
            int at = memberAt(kind, k);
            return at == NONE ? NONE : at + 6;
        }

        int attributeAt(int kind, int k, int a) {
            int from = attributesOf(kind, k);
            if (from == NONE || a < 0 || a >= row.two(from)) {
                return NONE;
            }
            int at = from + 2;
            for (int i = 0; i < a; i++) {
                at += 6 + row.four(at + 2);
            }
            return at;
        }

        /** Alike in meaning: other bytes only where places are told, and these of one MEANING. */
        boolean meansAs(ClassFile other) {
            int t = firstBehind();
            int u = other.firstBehind();
            int many = tellCount - t;
            if (many != other.tellCount - u || row.four(VERSION_AT) != other.row.four(VERSION_AT)) {
                return false;
            }
            int at = behind;
            int otherAt = other.behind;
            for (int i = 0; i < many; i++) {
                int tell = tellAt(t + i);
                int otherTell = other.tellAt(u + i);
                if (row.order(at, tell - at, other.row, otherAt, otherTell - otherAt) != 0
                        || pool.order(row.two(tell), other.pool, other.row.two(otherTell)) != 0) {
                    return false;
                }
                at = tell + 2;
                otherAt = otherTell + 2;
            }
            return row.order(at, row.size() - at, other.row, otherAt, other.row.size() - otherAt) == 0;
        }
    }

    /** Goes through the bytes of a FILE; once a fault is met, its steps do nothing more. */
    private static final class Reader {
        int fault = 0;
        int where = NONE;
        private final ClassFile file;
        private final Row row;
        private int at = 0;

        Reader(ClassFile file) {
            this.file = file;
            this.row = file.row;
        }

        private void fail(int kind, int place) {
            if (fault == 0) {
                fault = kind;
                where = place;
            }
        }

        void scan() {
            magic();
            skip(4);
            entries();
            file.behind = at;
            skip(2);
            tell(CLASS);
            classAbove();
            int faces = many(FACES_ROOM);
            for (int i = 0; i < faces && fault == 0; i++) {
                tell(CLASS);
            }
            members(OF_FIELDS);
            members(OF_METHODS);
            file.attributesAt = at;
            attributes();
            if (at < row.size()) {
                fail(MORE, at);
            }
        }

        private void skip(int bytes) {
            if (fault != 0) {
                return;
            }
            if (row.has(at, bytes)) {
                at += bytes;
            } else {
                fail(END, row.size());
            }
        }

        private void tell(int wanted) {
            int from = at;
            skip(2);
            if (fault == 0) {
                file.addTell(from, wanted);
            }
        }

        private int two() {
            int from = at;
            skip(2);
            return fault == 0 ? row.two(from) : 0;
        }

        private int many(int most) {
            int from = at;
            skip(2);
            int value = row.two(from);
            if (value > most) {
                fail(COUNT, from);
            }
            return fault == 0 ? value : 0;
        }

        private void magic() {
            for (int i = 0; i < 4; i++) {
                skip(1);
                if (row.one(i) != (MAGIC_FOUR >> (24 - 8 * i) & 255)) {
                    fail(MAGIC, i);
                }
            }
        }

        private void entries() {
            int from = at;
            int places = many(POOL_ROOM);
            if (places == 0) {
                fail(COUNT, from);
            }
            file.pool.begin(places);
            for (int i = 1; i < places && fault == 0; i++) {
                file.pool.set(i, at);
                int tag = row.one(at);
                anEntry(i == places - 1);
                if (isWide(tag)) {
                    i++;
                }
            }
        }

        private void anEntry(boolean last) {
            int from = at;
            skip(1);
            int tag = row.one(from);
            if (!isTag(tag) || last && isWide(tag)) {
                fail(TAG, from);
            } else if (tag == TEXT) {
                skip(two());
            } else if (isNumber(tag)) {
                skip(isWide(tag) ? 8 : 4);
            } else if (tag == CLASS || tag == STRING) {
                tell(TEXT);
            } else {
                tell(tag == NAMED ? TEXT : CLASS);
                tell(tag == NAMED ? TEXT : NAMED);
            }
        }

        private void classAbove() {
            // a 0 there tells no place: it is neither checked nor moved
            if (row.two(at) == 0) {
                skip(2);
            } else {
                tell(CLASS);
            }
        }

        private void members(int kind) {
            int many = many(MEMBERS_ROOM);
            for (int k = 0; k < many && fault == 0; k++) {
                file.addMember(kind, at);
                skip(2);
                tell(TEXT);
                tell(TEXT);
                attributes();
            }
        }

        private void attributes() {
            int many = many(ATTRIBUTES_ROOM);
            for (int a = 0; a < many && fault == 0; a++) {
                tell(TEXT);
                int from = at;
                skip(4);
                int bytes = fault == 0 ? row.four(from) : 0;
                if (bytes < 0) {
                    fail(SIZE, from);
                }
                skip(bytes);
            }
        }

        void checkTells() {
            for (int t = 0; t < file.tellCount() && fault == 0; t++) {
                int told = file.tellAt(t);
                int wrong = file.pool.wrong(row.two(told), file.wanted(t));
                if (wrong != 0) {
                    fail(wrong, told);
                }
            }
        }

        void checkSorts(int kind) {
            for (int k = 0; k < file.members(kind) && fault == 0; k++) {
                int told = file.memberAt(kind, k) + 4;
                int sort = row.two(told);
                int from = file.pool.textAt(sort);
                int end = from + file.pool.textSize(sort);
                boolean right = kind == OF_FIELDS ? Sorts.isType(row, from, end) : Sorts.isMethod(row, from, end);
                if (!right) {
                    fail(SORT, told);
                }
            }
        }
    }

    /** SORTS, as bytes of a row from a place up to an end. */
    private static final class Sorts {
        static boolean isType(Row row, int from, int end) {
            return typeEnd(row, from, end) == end;
        }

        static boolean isMethod(Row row, int from, int end) {
            int close = closing(row, from, end);
            if (close == NONE) {
                return false;
            }
            boolean answersNothing = close + 2 == end && row.one(close + 1) == 'V';
            return answersNothing || isType(row, close + 1, end);
        }

        static int width(Row row, int from) {
            int first = row.one(from);
            return first == 'J' || first == 'D' ? 2 : 1;
        }

        /** How many TYPES there are in the ( ) of a method's sort, or how many slots they take. */
        static int sum(Row row, int from, int end, boolean inSlots) {
            int sum = 0;
            int at = from + 1;
            for (int i = 0; i < TAPE_ROOM && at != NONE && row.one(at) != ')'; i++) {
                sum += inSlots ? width(row, at) : 1;
                at = typeEnd(row, at, end);
            }
            return sum;
        }

        /** Where the ) behind ( TYPES stands. */
        private static int closing(Row row, int from, int end) {
            int at = from < end && row.one(from) == '(' ? from + 1 : NONE;
            for (int i = 0; i < TAPE_ROOM && at != NONE && at < end && row.one(at) != ')'; i++) {
                at = typeEnd(row, at, end);
            }
            return at < end ? at : NONE;
        }

        /** The place behind the TYPE that begins there. */
        private static int typeEnd(Row row, int from, int end) {
            int at = from;
            while (at < end && row.one(at) == '[') {
                at++;
            }
            if (at >= end || at - from > DEPTH_ROOM) {
                return NONE;
            }
            switch (row.one(at)) {
                case 'B': case 'C': case 'D': case 'F': case 'I': case 'J': case 'S': case 'Z':
                    return at + 1;
                case 'L':
                    return nameEnd(row, at + 1, end);
                default:
                    return NONE;
            }
        }

        private static int nameEnd(Row row, int from, int end) {
            for (int at = from; at < end; at++) {
                if (row.one(at) == ';') {
                    return at == from ? NONE : at + 1;
                }
            }
            return NONE;
        }
    }

    /** MEANINGS of several POOLS, each once, in ORDER; it keeps copies, so that FILES may go. */
    private static final class Ranking {
        private final Pool[] pools = new Pool[FILES_ROOM];
        private int poolCount = 0;
        private final int[] owners = new int[JOINED_ROOM];
        private final int[] places = new int[JOINED_ROOM];
        private int size = 0;

        Ranking() {
            for (int i = 0; i < pools.length; i++) {
                pools[i] = new Pool();
            }
        }

        void clear() {
            poolCount = 0;
            size = 0;
        }

        int size() {
            return size;
        }

        /** Whether there was room for all of its MEANINGS. */
        boolean add(Pool from) {
            if (poolCount < 0 || poolCount >= pools.length) {
                return false;
            }
            Pool pool = pools[poolCount];
            pool.copy(from);
            poolCount++;
            for (int i = 1; i < pool.places(); i++) {
                int rank = pool.tag(i) == 0 ? NONE : firstNotBelow(pool, i);
                boolean fresh = rank != NONE && orderOf(rank, pool, i) != 0;
                if (fresh && !insert(rank, i)) {
                    return false;
                }
            }
            return true;
        }

        private boolean insert(int rank, int i) {
            if (rank < 0 || rank > size || size >= JOINED_ROOM) {
                return false;
            }
            System.arraycopy(owners, rank, owners, rank + 1, size - rank);
            System.arraycopy(places, rank, places, rank + 1, size - rank);
            owners[rank] = poolCount - 1;
            places[rank] = i;
            size++;
            return true;
        }

        int find(Pool pool, int i) {
            int rank = firstNotBelow(pool, i);
            return orderOf(rank, pool, i) == 0 ? rank : NONE;
        }

        private int firstNotBelow(Pool pool, int i) {
            int low = 0;
            int high = size;
            for (int step = 0; step <= JOINED_ROOM && low < high; step++) {
                int middle = (low + high) >> 1;
                Pool ranked = poolOf(middle);
                if (ranked != null && ranked.order(placeOf(middle), pool, i) < 0) {
                    low = middle + 1;
                } else {
                    high = middle;
                }
            }
            return low;
        }

        /** A rank that there is not is above all. */
        private int orderOf(int rank, Pool other, int i) {
            Pool pool = poolOf(rank);
            return pool == null ? 1 : pool.order(placeOf(rank), other, i);
        }

        private Pool poolOf(int rank) {
            if (rank < 0 || rank >= size || rank >= JOINED_ROOM) {
                return null;
            }
            int owner = owners[rank];
            return owner >= 0 && owner < pools.length ? pools[owner] : null;
        }

        int placeOf(int rank) {
            return rank >= 0 && rank < size && rank < JOINED_ROOM ? places[rank] : 0;
        }

        int tag(int rank) {
            Pool pool = poolOf(rank);
            return pool == null ? 0 : pool.tag(placeOf(rank));
        }

        /** In how many places of a POOL a MEANING is. */
        int tally(int rank, Pool other) {
            int sum = 0;
            for (int i = 1; i < other.places(); i++) {
                if (orderOf(rank, other, i) == 0) {
                    sum++;
                }
            }
            return sum;
        }
    }

    /** Writes a FILE IN ORDER into a row, given the ranking of its own POOL alone. */
    private static final class Writer {
        // by ranks: the places that MEANINGS get
        private final int[] heads = new int[POOL_ROOM];
        // by places as they were: the places that ENTRIES get
        private final int[] moved = new int[POOL_ROOM];

        /** How many places there are then. */
        int movePlaces(ClassFile file, Ranking ranking) {
            int next = 1;
            for (int rank = 0; rank < ranking.size() && rank < heads.length; rank++) {
                heads[rank] = next;
                next += isWide(ranking.tag(rank)) ? 2 : 1;
            }
            for (int i = 1; i < file.pool.places() && i < moved.length; i++) {
                int rank = file.pool.tag(i) == 0 ? NONE : ranking.find(file.pool, i);
                moved[i] = rank >= 0 && rank < heads.length ? heads[rank] : 0;
            }
            return next;
        }

        int push(ClassFile file, Ranking ranking, int places, Row to) {
            to.take(file.row, 0, COUNT_AT);
            to.pushTwo(places);
            for (int rank = 0; rank < ranking.size(); rank++) {
                pushEntry(file.pool, ranking.placeOf(rank), to);
            }
            pushRest(file, to);
            return to.size();
        }

        private int movedTo(int i) {
            return i >= 0 && i < moved.length ? moved[i] : 0;
        }

        private void pushEntry(Pool pool, int i, Row to) {
            int at = to.size();
            to.append(pool.row, pool.start(i), pool.bytesOf(i));
            int tag = pool.tag(i);
            if (tag >= CLASS) {
                to.putTwo(at + 1, movedTo(pool.first(i)));
            }
            if (tag >= FIELD) {
                to.putTwo(at + 3, movedTo(pool.second(i)));
            }
        }

        private void pushRest(ClassFile file, Row to) {
            int shift = to.size() - file.behind;
            to.append(file.row, file.behind, file.row.size() - file.behind);
            for (int t = file.firstBehind(); t < file.tellCount(); t++) {
                int at = file.tellAt(t);
                to.putTwo(at + shift, movedTo(file.row.two(at)));
            }
        }
    }
}
