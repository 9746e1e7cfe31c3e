/** Tapes of chance (always the same ones): no call throws what it must not, and what was written reads as it was. */
public final class WildTest {
    private static final String[] PARTS = {"1 0 obj", "2 0 obj", " endobj ", " endobj", "[", "]", "<<", ">>", "/A ", "/B#20 ", "/#00", "/Length ",
        "stream\n", "stream\r\n", "\nendstream ", "endstream", "(", ")", "\\", "\\1", "\r", "\n", "\r\n", "<41", "4>", "<", ">", "1 ", "2 0 R ",
        "-.5 ", "--7 ", "3 ", "null ", "true ", "false ", "%", "%x\n", "{", "\u00ff", "\0", " ", "xyz", "12345", "R", "."};

    private long seed = 20261115L;

    public static void main(String[] args) {
        Checks c = new Checks();
        WildTest wild = new WildTest();
        for (int round = 0; round < 4000; round++) {
            c.x = new SyntaxRows();
            wild.tape(c, round);
            look(c);
            roundTrip(c, round % 2 == 0);
        }
        c.end();
    }

    private int chance(int below) {
        seed = seed * 6364136223846793005L + 1442695040888963407L;
        return (int) ((seed >>> 33) % below);
    }

    private void tape(Checks c, int round) {
        StringBuilder text = new StringBuilder();
        int parts = chance(200);
        for (int i = 0; i < parts; i++) {
            if (round % 3 == 0) {
                text.append(PARTS[chance(PARTS.length)]);
            } else {
                text.append(i + 1).append(" 0 obj ").append(value(0)).append(chance(9) == 0 ? PARTS[chance(PARTS.length)] : "").append(" endobj\n");
            }
        }
        c.read(text.toString());
    }

    private String value(int depth) {
        StringBuilder text = new StringBuilder();
        int parts = chance(4);
        switch (chance(depth > 9 ? 7 : 10)) {
            case 0: return "(a" + PARTS[chance(PARTS.length)] + ")";
            case 1: return "/N" + chance(3) + " ";
            case 2: return "<4" + chance(100) + ">";
            case 3: return chance(1000) + "." + chance(1000) + " ";
            case 4: return "null ";
            case 5: return chance(9) + " 0 R ";
            case 6: return "-" + chance(1000) + " ";
            case 7:
                for (int i = 0; i < parts; i++) {
                    text.append(value(depth + 1));
                }
                return "[" + text + "]";
            default:
                for (int i = 0; i < parts; i++) {
                    text.append("/K").append(chance(3)).append(' ').append(value(depth + 1));
                }
                String stream = depth == 0 && chance(2) == 0 ? "/Length " + chance(9) + ">>stream\nabcd\nendstream" : ">>";
                return "<<" + text + stream;
        }
    }

    private static void look(Checks c) {
        int values = c.x.told(3);
        for (int i = 0; i < c.x.told(2); i++) {
            boolean faulty = c.x.object(i, 3) != 0;
            c.due("a fault has no value", c.x.object(i, 2) == -1 ? 1 : 0, faulty ? 1 : 0);
            c.due("a fault has a place", c.x.object(i, 4) == -1 ? 0 : 1, faulty ? 1 : 0);
            int before = i == 0 ? 0 : c.x.object(i - 1, 7);
            c.due("objects are in order", c.x.object(i, 6) >= before && c.x.object(i, 7) > c.x.object(i, 6) ? 1 : 0, 1);
        }
        for (int v = 0; v < values; v++) {
            for (int k = -1; k <= c.x.value(v, 1); k++) {
                int child = c.x.child(v, k);
                boolean there = k >= 0 && k < c.x.value(v, 1);
                c.due("child", child >= 0 && child < values ? 1 : 0, there ? 1 : 0);
            }
            for (int k = -1; k <= c.x.value(v, 2); k++) {
                boolean there = k >= 0 && k < c.x.value(v, 2);
                c.due("byteOf", c.x.byteOf(v, k) >= 0 ? 1 : 0, there ? 1 : 0);
            }
            for (int k = 0; k + 1 < c.x.value(v, 1) && c.x.value(v, 0) == SyntaxRows.DICTIONARY; k += 2) {
                c.due("lookup", c.x.lookup(v, c.x.child(v, k)), c.x.child(v, k + 1));
            }
        }
    }

    private static void roundTrip(Checks c, boolean readable) {
        // A stream without a Length gets one, and so two values more.
        boolean room = c.x.told(3) + 40 <= 300;
        int written = c.x.write(0, readable, true);
        if (!room || written < 0 || c.x.take() < 0) {
            return;
        }
        String first = c.out();
        c.x.read();
        c.due("no stray in what was written", c.x.told(4), 0);
        for (int i = 0; i < c.x.told(2); i++) {
            c.due("no fault in what was written: " + first, c.x.object(i, 3), 0);
            c.due("nothing noted of what was written: " + first, c.x.object(i, 5), 0);
        }
        c.x.write(0, readable, true);
        c.dueText("written again", c.out(), first);
    }
}
