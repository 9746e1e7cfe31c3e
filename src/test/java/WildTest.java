/** Tapes of chance (always the same ones): no call throws what it must not, and what was written reads as it was. */
public final class WildTest {
    private static final String[] PARTS = {"1 0 obj", "2 0 obj", " endobj ", " endobj", "[", "]", "<<", ">>", "/A ", "/B#20 ", "/#00", "/Length ",
        "stream\n", "stream\r\n", "\nendstream ", "endstream", "(", ")", "\\", "\\1", "\r", "\n", "\r\n", "<41", "4>", "<", ">", "1 ", "2 0 R ",
        "-.5 ", "--7 ", "3 ", "null ", "true ", "false ", "%", "%x\n", "{", "\u00ff", "\0", " ", "xyz", "12345", "R", "."};

    private long seed = 20261115L;

    private final Checks c = new Checks();
    private String text = "";
    private int asked = 0;

    public static void main(String[] args) {
        WildTest wild = new WildTest();
        for (int round = 0; round < 4000; round++) {
            wild.makeTape(round);
            wild.lookAtObjects();
            wild.lookAtValues();
            wild.roundTrip(round % 2 == 0);
        }
        wild.c.end();
    }

    /** The object under test, made anew before its 512 calls are over. */
    private SyntaxRows x() {
        if (asked >= 300) {
            c.read(text);
            asked = 0;
        }
        asked++;
        return c.x;
    }

    private int chance(int below) {
        seed = seed * 6364136223846793005L + 1442695040888963407L;
        return (int) ((seed >>> 33) % below);
    }

    private void makeTape(int round) {
        StringBuilder tape = new StringBuilder();
        int parts = chance(200);
        for (int i = 0; i < parts; i++) {
            if (round % 3 == 0) {
                tape.append(PARTS[chance(PARTS.length)]);
            } else {
                tape.append(i + 1).append(" 0 obj ").append(value(0)).append(chance(9) == 0 ? PARTS[chance(PARTS.length)] : "").append(" endobj\n");
            }
        }
        text = tape.substring(0, Math.min(1600, tape.length()));
        c.read(text);
        asked = 0;
    }

    private String value(int depth) {
        StringBuilder text = new StringBuilder();
        int parts = chance(4);
        switch (chance(depth > 9 ? 7 : 10)) {
            case 0: return "(a" + PARTS[chance(PARTS.length)] + ")";
            case 1: return "/N" + chance(3) + " ";
            case 2: return "<4" + chance(100) + ">";
            case 3: return chance(1000) + "." + chance(1000) + " ";
            case 4: return "null ";
            case 5: return chance(9) + " 0 R ";
            case 6: return "-" + chance(1000) + " ";
            case 7:
                for (int i = 0; i < parts; i++) {
                    text.append(value(depth + 1));
                }
                return "[" + text + "]";
            default:
                for (int i = 0; i < parts; i++) {
                    text.append("/K").append(chance(3)).append(' ').append(value(depth + 1));
                }
                String stream = depth == 0 && chance(2) == 0 ? "/Length " + chance(9) + ">>stream\nabcd\nendstream" : ">>";
                return "<<" + text + stream;
        }
    }

    private void lookAtObjects() {
        int objects = x().told(2);
        int before = 0;
        for (int i = 0; i < objects; i++) {
            boolean faulty = x().object(i, 3) != 0;
            c.due("a fault has no value", x().object(i, 2) == -1 ? 1 : 0, faulty ? 1 : 0);
            c.due("a fault has a place", x().object(i, 4) == -1 ? 0 : 1, faulty ? 1 : 0);
            int begin = x().object(i, 6);
            int end = x().object(i, 7);
            c.due("objects are in order", begin >= before && end > begin ? 1 : 0, 1);
            before = end;
        }
    }

    private void lookAtValues() {
        int values = x().told(3);
        for (int v = 0; v < values; v++) {
            int parts = x().value(v, 1);
            int bytes = x().value(v, 2);
            for (int k = -1; k <= parts; k++) {
                int child = x().child(v, k);
                c.due("child", child >= 0 && child < values ? 1 : 0, k >= 0 && k < parts ? 1 : 0);
            }
            for (int k = -1; k <= bytes; k++) {
                c.due("byteOf", x().byteOf(v, k) >= 0 ? 1 : 0, k >= 0 && k < bytes ? 1 : 0);
            }
            for (int k = 0; k + 1 < parts && x().value(v, 0) == SyntaxRows.DICTIONARY; k += 2) {
                c.due("lookup", x().lookup(v, x().child(v, k)), x().child(v, k + 1));
            }
        }
    }

    private void roundTrip(boolean readable) {
        Answers.Run written = x -> {
            Checks.feed(x, text);
            x.read();
            x.write(0, readable, true);
        };
        Answers.Run again = x -> {
            written.on(x);
            x.take();
            x.read();
        };
        c.x = new SyntaxRows();
        written.on(c.x);
        // A stream without a Length gets one, and so two values more.
        if (c.x.told(3) + 40 > 300 || c.x.told(1) == 0 || c.x.take() < 0) {
            return;
        }
        c.x.read();
        c.due("no stray in what was written", c.x.told(4), 0);
        for (int i = 0; i < c.x.told(2); i++) {
            c.due("no fault in what was written", c.x.object(i, 3), 0);
            c.due("nothing noted of what was written", c.x.object(i, 5), 0);
        }
        c.dueText("written again", Answers.out(x -> {
            again.on(x);
            x.write(0, readable, true);
        }), Answers.out(written));
    }
}
