import java.util.HashSet;
import java.util.Set;

/** Counts answers that are not as due, and tells them with the sentence of the document that they break. */
final class Check {
    private int wrong = 0;
    private int asked = 0;
    private int askedBefore = -1;
    private String sentence = "";
    private final Set<String> sections = new HashSet<>();

    /** What is asked from now on tests these words, which stand in that section of the document. */
    void of(String section, String words) {
        endSentence();
        sections.add(section);
        sentence = section + ", \"" + words + "\": ";
        due("the words stand in the document", Document.says(section, words) ? 1 : 0, 1);
        askedBefore = asked;
    }

    /** Sentences of all promises have been named. */
    void ofAllPromises() {
        for (int n = 1; n <= 19; n++) {
            due("whether a sentence of Promise " + n + " was named", sections.contains("Promise " + n) ? 1 : 0, 1);
        }
    }

    private void endSentence() {
        if (asked == askedBefore) {
            wrong++;
            System.out.println(sentence + "nothing was asked");
        }
    }

    void due(String what, long got, long want) {
        asked++;
        if (got != want) {
            tell(what, Long.toString(got), Long.toString(want));
        }
    }

    void due(String what, String got, String want) {
        asked++;
        if (!got.equals(want)) {
            tell(what, got, want);
        }
    }

    private void tell(String what, String got, String want) {
        wrong++;
        System.out.println(sentence + what + " answered " + got + ", due is " + want);
    }

    /** Ends the program, with exit code 1 if something was wrong. */
    void end() {
        endSentence();
        System.out.println(asked + " answers, " + wrong + " of them not as due");
        if (wrong != 0 || asked == 0) {
            System.exit(1);
        }
    }

    /** A new object that has read these files. */
    ClassPools with(Made... files) {
        ClassPools x = new ClassPools();
        for (int i = 0; i < files.length; i++) {
            due("read", files[i].read(x), i);
        }
        return x;
    }

    /** The bytes are a file. */
    void right(String what, byte[] bytes) {
        ClassPools x = new ClassPools();
        due("read: " + what, Made.read(x, bytes), 0);
        due("place: " + what, x.place(), ClassPools.NONE);
        due("bytes: " + what, x.file(0, 0), bytes.length);
        due("empty tape: " + what, x.feed(0, 1), 1);
    }

    /** The bytes are none, for a fault at a place. */
    void fault(String what, byte[] bytes, int fault, int place) {
        ClassPools x = new ClassPools();
        due("read: " + what, Made.read(x, bytes), -20 - fault);
        due("place: " + what, x.place(), place);
        due("no file: " + what, x.file(0, 0), ClassPools.NONE);
        due("empty tape: " + what, x.feed(0, 1), 1);
    }

    /** An answer that is how many bytes OUT has, and OUT. */
    void shows(String what, ClassPools x, int answer, String out) {
        due(what, answer, out.length());
        due("OUT: " + what, shown(x), out);
    }

    static String shown(ClassPools x) {
        StringBuilder s = new StringBuilder();
        int b = x.out(0);
        for (int i = 1; b != ClassPools.NONE; i++) {
            s.append((char) b);
            b = x.out(i);
        }
        return s.toString();
    }

    static byte[] shownBytes(ClassPools x) {
        return Made.bytesOf(shown(x));
    }

    static String thrown(ClassPools x, int file, int i) {
        try {
            return Long.toString(x.number(file, i));
        } catch (IllegalArgumentException | IndexOutOfBoundsException | NullPointerException | ClassCastException e) {
            return e.getClass().getSimpleName();
        }
    }
}
