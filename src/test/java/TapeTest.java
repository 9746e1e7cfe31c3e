/** Promises 1 (a new object), 2 (feed), 3 (wipe) and 15 (told). */
public final class TapeTest {
    public static void main(String[] args) {
        Checks c = new Checks();
        fresh(c);
        feeding(c);
        full(c);
        wiping(c);
        telling(c);
        c.end();
    }

    private static void fresh(Checks c) {
        c.x = new SyntaxRows();
        for (int what = 0; what <= 4; what++) {
            c.due("told(" + what + ") of a new object", c.x.told(what), 0);
        }
        c.due("out(0) of a new object", c.x.out(0), -1);
        c.due("find(0, 0) of a new object", c.x.find(0, 0), -1);
        c.dueIndex("object(0, 0) of a new object", () -> c.x.object(0, 0));
        c.dueIndex("value(0, 0) of a new object", () -> c.x.value(0, 0));
        c.due("wipe() of a new object", c.x.wipe(), 0);
        c.due("take() of a new object", c.x.take(), 0);
        c.due("read() of a new object", c.x.read(), 0);
    }

    private static void feeding(Checks c) {
        c.x = new SyntaxRows();
        int[] wrong = {0, 9, -1, Integer.MAX_VALUE, Integer.MIN_VALUE};
        for (int n : wrong) {
            c.dueThrow("feed(" + n + ", 0)", IllegalArgumentException.class, () -> c.x.feed(n, 0));
        }
        c.due("told(0) behind wrong feeds", c.x.told(0), 0);
        int size = 0;
        for (int n = 1; n <= 8; n++) {
            size += n;
            c.due("feed(" + n + ", ..)", c.x.feed(n, -1L), size);
        }
        // The lowest byte first, and those above the n-th not at all.
        c.x.wipe();
        c.x.feed(3, 0x41_42_43_31_20_30L);
        c.x.feed(8, 0x2F_20_6A_62_6F_20_30_20L);
        c.x.feed(8, 0x6F_64_6E_65_20_FF_23_80L);
        c.due("told(0)", c.x.told(0), 19);
        c.x.wipe();
        c.feed("1 0 obj (");
        c.x.feed(2, 0x7FFFFFFF_FFFF80FFL);
        c.feed(") endobj");
        c.x.read();
        c.due("the first byte", c.x.byteOf(0, 0), 255);
        c.due("the second byte", c.x.byteOf(0, 1), 128);
        c.due("how many", c.x.value(0, 2), 2);
    }

    private static void full(Checks c) {
        c.x = new SyntaxRows();
        for (int i = 1; i <= 199; i++) {
            c.x.feed(8, 0x2020202020202020L);
        }
        c.due("feed to 1599", c.x.feed(7, 0x20202020202020L), 1599);
        c.due("feed to 1601", c.x.feed(2, 0x2020L), -1);
        c.due("feed to 1607", c.x.feed(8, 0x2020L), -1);
        c.due("told(0) behind them", c.x.told(0), 1599);
        c.dueThrow("feed(9, 0) when full", IllegalArgumentException.class, () -> c.x.feed(9, 0));
        c.due("feed to 1600", c.x.feed(1, 'x'), 1600);
        c.due("feed to 1601", c.x.feed(1, 'x'), -1);
        c.due("read()", c.x.read(), 0);
        c.due("the last byte is there", c.x.told(4), 1);
        c.due("wipe() when full", c.x.wipe(), 1600);
        c.due("feed behind wipe", c.x.feed(8, 0), 8);
    }

    private static void wiping(Checks c) {
        c.x = new SyntaxRows();
        c.read("1 0 obj (ab) endobj z");
        c.x.write(0, false, false);
        c.due("wipe()", c.x.wipe(), 21);
        c.due("told(0) behind wipe", c.x.told(0), 0);
        c.due("wipe() again", c.x.wipe(), 0);
        c.dueText("what was read stays", c.bytes(0), "ab");
        c.due("objects stay", c.x.told(2), 1);
        c.due("stray stays", c.x.told(4), 1);
        c.dueText("OUT stays", c.out(), "(ab)");
        c.due("read() of nothing", c.x.read(), 0);
        c.due("then objects are gone", c.x.told(2), 0);
        c.due("then values are gone", c.x.told(3), 0);
        c.due("then stray is gone", c.x.told(4), 0);
        c.dueText("OUT stays", c.out(), "(ab)");
    }

    private static void telling(Checks c) {
        c.x = new SyntaxRows();
        c.read(" a 1 0 obj [1 2] endobj b 2 0 obj ] endobj");
        c.x.write(2, false, false);
        int[] due = {42, 1, 2, 3, 2};
        for (int what = 0; what < due.length; what++) {
            c.due("told(" + what + ")", c.x.told(what), due[what]);
        }
        c.feed("zz");
        c.due("stray is of the latest read", c.x.told(4), 2);
        c.due("the tape is as it is now", c.x.told(0), 44);
        int[] wrong = {-1, 5, Integer.MAX_VALUE, Integer.MIN_VALUE};
        for (int what : wrong) {
            c.dueIndex("told(" + what + ")", () -> c.x.told(what));
        }
    }
}
