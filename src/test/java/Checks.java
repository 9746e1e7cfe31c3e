import java.nio.charset.StandardCharsets;

/** What every test of the project uses: one object under test, calls with the answers that are due, a count of wrong ones. */
final class Checks {
    private int wrong = 0;
    SyntaxRows x = new SyntaxRows();

    interface Call {
        long answer();
    }

    void due(String call, long got, long want) {
        if (got != want) {
            wrong++;
            System.out.println(call + " answered " + got + ", due is " + want);
        }
    }

    void dueText(String call, String got, String want) {
        if (!got.equals(want)) {
            wrong++;
            System.out.println(call + " answered [" + got + "], due is [" + want + "]");
        }
    }

    void dueThrow(String call, Class<? extends RuntimeException> want, Call made) {
        try {
            long got = made.answer();
            wrong++;
            System.out.println(call + " answered " + got + ", due is a throw of " + want.getSimpleName());
        } catch (RuntimeException e) {
            if (e.getClass() != want) {
                wrong++;
                System.out.println(call + " threw " + e + ", due is " + want.getSimpleName());
            }
        }
    }

    void dueIndex(String call, Call made) {
        dueThrow(call, IndexOutOfBoundsException.class, made);
    }

    /** Puts a text behind what the tape of an object has, each of its characters being a byte. */
    static int feed(SyntaxRows x, String text) {
        byte[] bytes = text.getBytes(StandardCharsets.ISO_8859_1);
        int answer = x.told(0);
        for (int from = 0; from < bytes.length; from += 8) {
            int n = Math.min(8, bytes.length - from);
            long word = 0;
            for (int i = n - 1; i >= 0; i--) {
                word = word << 8 | bytes[from + i] & 255;
            }
            answer = x.feed(n, word);
        }
        return answer;
    }

    int feed(String text) {
        return feed(x, text);
    }

    /** A text as the whole tape of a new object, read: how many objects there are. New, as an object has 512 calls only. */
    int read(String text) {
        x = new SyntaxRows();
        feed(text);
        return x.read();
    }

    /** The same with the object that is there, so that OUT stays. */
    int readAgain(String text) {
        x.wipe();
        feed(text);
        return x.read();
    }

    String out() {
        StringBuilder text = new StringBuilder();
        int size = x.told(1);
        for (int i = 0; i < size; i++) {
            text.append((char) x.out(i));
        }
        return text.toString();
    }

    String least(int v) {
        x.write(v, false, false);
        return out();
    }

    String readable(int v) {
        x.write(v, true, false);
        return out();
    }

    String bytes(int v) {
        StringBuilder text = new StringBuilder();
        int size = x.value(v, 2);
        for (int k = 0; k < size; k++) {
            text.append((char) x.byteOf(v, k));
        }
        return text.toString();
    }

    /** The tape has one object, and that has a fault at a place, and what was noted before. */
    void dueFault(String text, int fault, int place, int noted) {
        due(text + " objects", read(text), 1);
        dueFault(text, 0, fault, place, noted);
    }

    void dueFault(String text, int i, int fault, int place, int noted) {
        due(text + " object " + i + " fault", x.object(i, 3), fault);
        due(text + " object " + i + " place", x.object(i, 4), place);
        due(text + " object " + i + " noted", x.object(i, 5), noted);
        due(text + " object " + i + " value", x.object(i, 2), SyntaxRows.NONE);
    }

    /** The fault of a value in an object, its place counted from the value's first byte. */
    void dueFaultIn(String value, int fault, int place, int noted) {
        dueFault("1 0 obj " + value + " endobj", fault, 8 + place, noted);
    }

    /** The tape ends too early: 1, at its end. */
    void dueEnd(String text, int noted) {
        dueFault(text, 1, text.length(), noted);
        due(text + " ends", x.object(0, 7), text.length());
    }

    /** The tape is the value in an object: it has no fault, and is noted so. */
    int dueValue(String text, int kind, int noted) {
        due(text + " objects", read("1 0 obj " + text + " endobj"), 1);
        due(text + " fault", x.object(0, 3), 0);
        due(text + " place", x.object(0, 4), SyntaxRows.NONE);
        due(text + " noted", x.object(0, 5), noted);
        int v = x.object(0, 2);
        if (v >= 0) {
            due(text + " kind", x.value(v, 0), kind);
        }
        return v;
    }

    void dueNumber(String text, int kind, int noted, long number) {
        int v = dueValue(text, kind, noted);
        if (v < 0) {
            return;
        }
        due(text + " number", x.number(v), number);
        due(text + " values", x.value(v, 1), 0);
        due(text + " bytes", x.value(v, 2), 0);
        due(text + " all values", x.told(3), 1);
    }

    void dueBytes(String text, int kind, int noted, String bytes) {
        int v = dueValue(text, kind, noted);
        if (v < 0) {
            return;
        }
        dueText(text + " bytes", bytes(v), bytes);
        due(text + " byte behind", x.byteOf(v, bytes.length()), -1);
        due(text + " byte before", x.byteOf(v, -1), -1);
        due(text + " number", x.number(v), 0);
        due(text + " values", x.value(v, 1), 0);
        due(text + " child", x.child(v, 0), -1);
    }

    /** The objects of a tape that is read, and its stray bytes. */
    void dueCounts(String text, int objects, int stray) {
        due(text + " objects", read(text), objects);
        due(text + " told(2)", x.told(2), objects);
        due(text + " stray", x.told(4), stray);
    }

    void end() {
        if (wrong != 0) {
            System.out.println(wrong + " answers are not as due");
            System.exit(1);
        }
    }
}
