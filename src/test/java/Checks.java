import java.nio.charset.StandardCharsets;

/** What every test of the project uses: one object under test, calls with the answers that are due, a count of wrong ones. */
final class Checks {
    private int wrong = 0;
    SyntaxRows x = new SyntaxRows();

    interface Call {
        long answer();
    }

    void due(String call, long got, long want) {
        if (got != want) {
            wrong++;
            System.out.println(call + " answered " + got + ", due is " + want);
        }
    }

    void dueText(String call, String got, String want) {
        if (!got.equals(want)) {
            wrong++;
            System.out.println(call + " answered [" + got + "], due is [" + want + "]");
        }
    }

    void dueThrow(String call, Class<? extends RuntimeException> want, Call made) {
        try {
            long got = made.answer();
            wrong++;
            System.out.println(call + " answered " + got + ", due is a throw of " + want.getSimpleName());
        } catch (RuntimeException e) {
            if (e.getClass() != want) {
                wrong++;
                System.out.println(call + " threw " + e + ", due is " + want.getSimpleName());
            }
        }
    }

    void dueIndex(String call, Call made) {
        dueThrow(call, IndexOutOfBoundsException.class, made);
    }

    /** Puts a text behind what the tape has, each of its characters being a byte. */
    int feed(String text) {
        byte[] bytes = text.getBytes(StandardCharsets.ISO_8859_1);
        int answer = x.told(0);
        for (int from = 0; from < bytes.length; from += 8) {
            int n = Math.min(8, bytes.length - from);
            long word = 0;
            for (int i = n - 1; i >= 0; i--) {
                word = word << 8 | bytes[from + i] & 255;
            }
            answer = x.feed(n, word);
        }
        return answer;
    }

    /** A text as the whole tape, read: how many objects there are. */
    int read(String text) {
        x.wipe();
        feed(text);
        return x.read();
    }

    String out() {
        StringBuilder text = new StringBuilder();
        for (int i = 0; i < x.told(1); i++) {
            text.append((char) x.out(i));
        }
        return text.toString();
    }

    String least(int v) {
        x.write(v, false, false);
        return out();
    }

    String readable(int v) {
        x.write(v, true, false);
        return out();
    }

    String bytes(int v) {
        StringBuilder text = new StringBuilder();
        for (int k = 0; k < x.value(v, 2); k++) {
            text.append((char) x.byteOf(v, k));
        }
        return text.toString();
    }

    /** The tape has one object, and that has a fault at a place, and what was noted before. */
    void dueFault(String text, int fault, int place, int noted) {
        due(text + " objects", read(text), 1);
        dueFault(text, 0, fault, place, noted);
    }

    void dueFault(String text, int i, int fault, int place, int noted) {
        due(text + " object " + i + " fault", x.object(i, 3), fault);
        due(text + " object " + i + " place", x.object(i, 4), place);
        due(text + " object " + i + " noted", x.object(i, 5), noted);
        due(text + " object " + i + " value", x.object(i, 2), SyntaxRows.NONE);
    }

    /** The tape is the value in an object: it has no fault, and is noted so. */
    int dueValue(String text, int kind, int noted) {
        due(text + " objects", read("1 0 obj " + text + " endobj"), 1);
        due(text + " fault", x.object(0, 3), 0);
        due(text + " place", x.object(0, 4), SyntaxRows.NONE);
        due(text + " noted", x.object(0, 5), noted);
        int v = x.object(0, 2);
        if (v >= 0) {
            due(text + " kind", x.value(v, 0), kind);
        }
        return v;
    }

    void end() {
        if (wrong != 0) {
            System.out.println(wrong + " answers are not as due");
            System.exit(1);
        }
    }
}
