/** Promises 1 to 15, one method each: what each call answers at the edges of its arguments. */
public final class CallEdgesTest {
    private static final int NONE = SyntaxRows.NONE;
    private static final int[] FAR = {-1, -2, Integer.MIN_VALUE, Integer.MAX_VALUE};

    public static void main(String[] args) {
        Checks c = new Checks();
        newObject(c);
        feed(c);
        feedTakesTheLowestFirst(c);
        wipe(c);
        read(c);
        object(c);
        find(c);
        value(c);
        number(c);
        byteOf(c);
        child(c);
        lookup(c);
        write(c);
        out(c);
        take(c);
        told(c);
        c.end();
    }

    /** "An empty tape and OUT; nothing was read." */
    private static void newObject(Checks c) {
        c.x = new SyntaxRows();
        for (int what = 0; what < 5; what++) {
            c.due("new: told(" + what + ")", c.x.told(what), 0);
        }
        c.due("new: out(0)", c.x.out(0), NONE);
        c.due("new: find(0, 0)", c.x.find(0, 0), NONE);
        c.dueIndex("new: object(0, 0)", () -> c.x.object(0, 0));
        c.dueIndex("new: value(0, 0)", () -> c.x.value(0, 0));
        c.due("new: write all", c.x.write(0, true, true), 0);
        c.due("new: take()", c.x.take(), 0);
        c.due("new: wipe()", c.x.wipe(), 0);
        c.due("new: read()", c.x.read(), 0);
        SyntaxRows other = new SyntaxRows();
        c.x.feed(1, 'x');
        c.x.read();
        c.due("another one's tape", other.told(0), 0);
        c.due("another one's stray", other.told(4), 0);
    }

    /** "n bytes more, 1 to 8 [..]: how many the tape has [..]. IllegalArgumentException: another n." */
    private static void feed(Checks c) {
        int[] wrong = {0, 9, -1, -8, 16, 256 + 1, Integer.MIN_VALUE, Integer.MAX_VALUE, Integer.MIN_VALUE + 1};
        for (int n : wrong) {
            c.x = new SyntaxRows();
            c.dueThrow("feed(" + n + ", 0)", IllegalArgumentException.class, () -> c.x.feed(n, 0));
            c.due("told(0) behind it", c.x.told(0), 0);
        }
        for (int n = 1; n <= 8; n++) {
            c.x = new SyntaxRows();
            c.due("feed(" + n + ", ..)", c.x.feed(n, -1L), n);
            c.due("feed(" + n + ", ..) again", c.x.feed(n, -1L), 2 * n);
            c.due("told(0)", c.x.told(0), 2 * n);
        }
        for (int n = 1; n <= 8; n++) {
            c.read("x".repeat(1600 - n));
            c.due("feed(" + n + ", ..) to 1600", c.x.feed(n, 0), 1600);
            c.read("x".repeat(1601 - n));
            c.due("feed(" + n + ", ..) to 1601", c.x.feed(n, 0), NONE);
            c.due("told(0)", c.x.told(0), 1601 - n);
        }
    }

    /** "the lowest first". */
    private static void feedTakesTheLowestFirst(Checks c) {
        for (int n = 1; n <= 8; n++) {
            c.x = new SyntaxRows();
            c.feed("1 0 obj (");
            c.x.feed(n, 0x8F8E8D8C8B8A8988L);
            c.feed(") endobj");
            c.due("one object", c.x.read(), 1);
            c.due("its bytes", c.x.value(0, 2), n);
            for (int k = 0; k < n; k++) {
                c.due("feed(" + n + ", ..): byte " + k, c.x.byteOf(0, k), 0x88 + k);
            }
        }
    }

    /** "The tape is empty: how many bytes it had." */
    private static void wipe(Checks c) {
        c.x = new SyntaxRows();
        c.due("wipe() of none", c.x.wipe(), 0);
        c.feed("x");
        c.due("wipe() of one", c.x.wipe(), 1);
        c.due("wipe() again", c.x.wipe(), 0);
        c.feed("x".repeat(1600));
        c.due("wipe() of 1600", c.x.wipe(), 1600);
        c.due("told(0)", c.x.told(0), 0);
        c.due("feed behind it", c.x.feed(8, 0), 8);
        c.read("1 0 obj /a endobj z");
        c.x.write(0, false, false);
        c.due("wipe()", c.x.wipe(), 19);
        c.due("objects stay", c.x.told(2), 1);
        c.due("values stay", c.x.byteOf(0, 0), 'a');
        c.due("stray stays", c.x.told(4), 1);
        c.dueText("OUT stays", c.out(), "/a");
        c.due("then nothing is read", c.x.read(), 0);
    }

    /** "how many objects there are, those with faults, too. What was read before is gone." */
    private static void read(Checks c) {
        c.due("of nothing", c.read(""), 0);
        c.due("of white", c.read("\0\t\n\f\r %1 0 obj 5 endobj"), 0);
        c.due("of stray", c.read("xyz"), 0);
        c.due("of one", c.read("1 0 obj 5 endobj"), 1);
        c.due("of one with a fault", c.read("1 0 obj } endobj"), 1);
        c.due("of three, one with a fault", c.read("1 0 obj 5 endobj 1 0 obj } endobj 1 0 obj 6 endobj"), 3);
        c.due("again", c.x.read(), 3);
        c.due("the tape stays", c.x.told(0), 50);
        c.x.wipe();
        c.due("of nothing again", c.x.read(), 0);
        c.due("values are gone", c.x.told(3), 0);
        c.due("find", c.x.find(1, 0), NONE);
        c.dueIndex("object(0, 0)", () -> c.x.object(0, 0));
        c.dueIndex("value(0, 0)", () -> c.x.value(0, 0));
    }

    /** "IndexOutOfBoundsException: there is no such object or what." */
    private static void object(Checks c) {
        c.read("  12 34 obj 5 endobj  56 78 obj --5 } endobj ");
        int[][] due = {{12, 34, 0, 0, -1, 0, 2, 20}, {56, 78, -1, 2, 36, 1, 22, 44}};
        for (int i = 0; i < 2; i++) {
            for (int what = 0; what < 8; what++) {
                c.due("object(" + i + ", " + what + ")", c.x.object(i, what), due[i][what]);
            }
        }
        for (int far : FAR) {
            c.dueIndex("object(" + far + ", 0)", () -> c.x.object(far, 0));
            c.dueIndex("object(0, " + far + ")", () -> c.x.object(0, far));
            c.dueIndex("object(1, " + far + ")", () -> c.x.object(1, far));
        }
        c.dueIndex("object(2, 0)", () -> c.x.object(2, 0));
        c.dueIndex("object(0, 8)", () -> c.x.object(0, 8));
        c.dueIndex("object(1, 8)", () -> c.x.object(1, 8));
        c.dueIndex("object(2, 8)", () -> c.x.object(2, 8));
    }

    /** "The latest object in order without a fault that has a number and a generation; NONE when there is none." */
    private static void find(Checks c) {
        c.read("1 0 obj 1 endobj 1 0 obj 2 endobj 1 0 obj } endobj 0 1 obj null endobj 2 0 obj } endobj 999999999 999999999 obj 5 endobj");
        c.due("the latest without a fault", c.x.find(1, 0), 1);
        c.due("its generation counts", c.x.find(1, 1), NONE);
        c.due("its number counts", c.x.find(0, 0), NONE);
        c.due("one that is null", c.x.find(0, 1), 3);
        c.due("with a fault alone", c.x.find(2, 0), NONE);
        c.due("the greatest", c.x.find(999999999, 999999999), 5);
        c.due("above it", c.x.find(1000000000, 999999999), NONE);
        for (int far : FAR) {
            c.due("find(" + far + ", 0)", c.x.find(far, 0), NONE);
            c.due("find(1, " + far + ")", c.x.find(1, far), NONE);
        }
        c.read("1 0 obj 1 endobj 1 0 obj } endobj");
        c.due("the first one", c.x.find(1, 0), 0);
    }

    /** "its kind (what = 0), how many values (1 [..]) or bytes ([..] those alone: 2) it has." */
    private static void value(Checks c) {
        c.read("1 0 obj<</Ab[null true 1 .5(xyz)1 0 R]/Length 4>>stream\nwxyz\nendstream endobj");
        // 0 <<, 1 /Ab, 2 [, 3 null, 4 true, 5 1, 6 .5, 7 (xyz), 8 1 0 R, 9 /Length, 10 4, 11 the stream.
        int[] kinds = {7, 4, 6, 0, 1, 2, 3, 5, 8, 4, 2, 9};
        int[] values = {4, 0, 6, 0, 0, 0, 0, 0, 0, 0, 0, 1};
        int[] bytes = {0, 2, 0, 0, 0, 0, 0, 3, 0, 6, 0, 4};
        for (int v = 0; v < kinds.length; v++) {
            c.due("value(" + v + ", 0)", c.x.value(v, 0), kinds[v]);
            c.due("value(" + v + ", 1)", c.x.value(v, 1), values[v]);
            c.due("value(" + v + ", 2)", c.x.value(v, 2), bytes[v]);
        }
        for (int far : FAR) {
            c.dueIndex("value(" + far + ", 0)", () -> c.x.value(far, 0));
            c.dueIndex("value(0, " + far + ")", () -> c.x.value(0, far));
        }
        c.dueIndex("value(12, 0)", () -> c.x.value(12, 0));
        c.dueIndex("value(0, 3)", () -> c.x.value(0, 3));
        c.dueIndex("value(11, 3)", () -> c.x.value(11, 3));
        c.dueIndex("value(12, 3)", () -> c.x.value(12, 3));
    }

    /** "A value's number (of a truth, whole number, real, reference; else 0)." */
    private static void number(Checks c) {
        c.read("1 0 obj[null true false 999999999 -999999999 999999999.999999 -999999999.999999 999999999 999999999 R/a(b)<</c 5>>]endobj");
        long[] due = {0, 0, 1, 0, 999999999, -999999999, 999999999999999L, -999999999999999L, 999999999999999999L, 0, 0, 0, 0, 5};
        for (int v = 0; v < due.length; v++) {
            c.due("number(" + v + ")", c.x.number(v), due[v]);
        }
        c.dueIndex("number(14)", () -> c.x.number(due.length));
        for (int far : FAR) {
            c.dueIndex("number(" + far + ")", () -> c.x.number(far));
        }
    }

    /** "Byte k of a name, string or stream; NONE when it has none such." */
    private static void byteOf(Checks c) {
        c.read("1 0 obj[/#ffb()(\\000\\377)/ 7]endobj 2 0 obj<<>>stream\n\u00fe\0\nendstream endobj");
        int[][] due = {{NONE}, {255, 'b', NONE}, {NONE}, {0, 255, NONE}, {NONE}, {NONE}, {NONE}, {254, 0, NONE}};
        for (int v = 0; v < due.length; v++) {
            int value = v;
            for (int k = 0; k < due[v].length; k++) {
                c.due("byteOf(" + v + ", " + k + ")", c.x.byteOf(v, k), due[v][k]);
            }
            for (int far : FAR) {
                c.due("byteOf(" + v + ", " + far + ")", c.x.byteOf(value, far), NONE);
            }
        }
        for (int far : FAR) {
            c.dueIndex("byteOf(" + far + ", 0)", () -> c.x.byteOf(far, 0));
            c.dueIndex("byteOf(" + far + ", " + far + ")", () -> c.x.byteOf(far, far));
        }
        c.dueIndex("byteOf(8, 0)", () -> c.x.byteOf(8, 0));
        c.dueIndex("byteOf(8, -1)", () -> c.x.byteOf(8, -1));
    }

    /** "The k-th value of an array, dictionary (keys and values by turns) or stream; NONE when it has none such." */
    private static void child(Checks c) {
        c.read("1 0 obj[7/a(b)<</c 8/d[]>>]endobj 2 0 obj<<>>stream\nx\nendstream endobj");
        // 0 [, 1 7, 2 /a, 3 (b), 4 <<, 5 /c, 6 8, 7 /d, 8 []; 9 <<, 10 the stream.
        int[][] due = {{1, 2, 3, 4, NONE}, {NONE}, {NONE}, {NONE}, {5, 6, 7, 8, NONE}, {NONE}, {NONE}, {NONE}, {NONE}, {NONE}, {9, NONE}};
        for (int v = 0; v < due.length; v++) {
            for (int k = 0; k < due[v].length; k++) {
                c.due("child(" + v + ", " + k + ")", c.x.child(v, k), due[v][k]);
            }
            for (int far : FAR) {
                c.due("child(" + v + ", " + far + ")", c.x.child(v, far), NONE);
            }
        }
        for (int far : FAR) {
            c.dueIndex("child(" + far + ", 0)", () -> c.x.child(far, 0));
            c.dueIndex("child(" + far + ", " + far + ")", () -> c.x.child(far, far));
        }
        c.dueIndex("child(11, 0)", () -> c.x.child(11, 0));
        c.dueIndex("child(11, -1)", () -> c.x.child(11, -1));
    }

    /** "NONE when there is none, or key is no name. IndexOutOfBoundsException: there are no such values." */
    private static void lookup(Checks c) {
        c.read("1 0 obj<</a 1/b null/ 2>>endobj 2 0 obj[/a/b//c(a)<61>]endobj 3 0 obj<</c 3>>stream\nx\nendstream endobj");
        // 0 <<, 1 /a, 2 1, 3 /b, 4 null, 5 /, 6 2; 7 [, 8 /a, 9 /b, 10 /, 11 /c, 12 (a), 13 <61>; 14 <<, 15 /c, 16 3, 17 the stream.
        int[] keys = {0, 1, 2, 3, 4, 5, 6, 7, 8, 9, 10, 11, 12, 13, 14, 15, 16, 17};
        int[] ofDictionary = {-1, 2, -1, -1, -1, 6, -1, -1, 2, -1, 6, -1, -1, -1, -1, -1, -1, -1};
        int[] ofStream = {-1, -1, -1, -1, -1, -1, -1, -1, -1, -1, -1, 16, -1, -1, -1, 16, -1, -1};
        for (int key : keys) {
            c.due("lookup(0, " + key + ")", c.x.lookup(0, key), ofDictionary[key]);
            c.due("lookup(14, " + key + ")", c.x.lookup(14, key), ofStream[key]);
            c.due("lookup(17, " + key + ")", c.x.lookup(17, key), ofStream[key]);
            c.due("lookup(7, " + key + ")", c.x.lookup(7, key), NONE);
            c.due("lookup(1, " + key + ")", c.x.lookup(1, key), NONE);
        }
        for (int far : FAR) {
            c.dueIndex("lookup(0, " + far + ")", () -> c.x.lookup(0, far));
            c.dueIndex("lookup(" + far + ", 1)", () -> c.x.lookup(far, 1));
            c.dueIndex("lookup(7, " + far + ")", () -> c.x.lookup(7, far));
        }
        c.dueIndex("lookup(0, 18)", () -> c.x.lookup(0, 18));
        c.dueIndex("lookup(18, 1)", () -> c.x.lookup(18, 1));
        c.dueIndex("lookup(18, 18)", () -> c.x.lookup(18, 18));
    }

    /** "IndexOutOfBoundsException: there is no such value (not with all)." */
    private static void write(Checks c) {
        c.read("1 0 obj[1 2]endobj");
        c.due("write(2, ..)", c.x.write(2, false, false), 1);
        c.due("write(0, ..)", c.x.write(0, false, false), 5);
        int[] none = {3, 300, -1, Integer.MIN_VALUE, Integer.MAX_VALUE};
        for (int v : none) {
            c.dueIndex("write(" + v + ", false, false)", () -> c.x.write(v, false, false));
            c.dueIndex("write(" + v + ", true, false)", () -> c.x.write(v, true, false));
            c.dueText("OUT stays", c.out(), "[1 2]");
        }
        for (int v : none) {
            c.due("write(" + v + ", false, true)", c.x.write(v, false, true), 21);
        }
    }

    /** "Byte i of OUT; NONE when there is none." */
    private static void out(Checks c) {
        c.read("1 0 obj(\\377\\000)endobj 2 0 obj/abcdef endobj 3 0 obj 1 endobj");
        c.x.write(1, false, false);
        c.x.write(0, false, false);
        int[] due = {'(', 255, 0, ')', NONE, NONE};
        for (int i = 0; i < due.length; i++) {
            c.due("out(" + i + ")", c.x.out(i), due[i]);
        }
        for (int far : FAR) {
            c.due("out(" + far + ")", c.x.out(far), NONE);
        }
        c.due("out(3999)", c.x.out(3999), NONE);
        c.due("out(4000)", c.x.out(4000), NONE);
    }

    /** "OUT becomes the tape: how many bytes". */
    private static void take(Checks c) {
        c.read("1 0 obj(\\377\\000)endobj 2 0 obj 1 endobj z");
        c.due("write", c.x.write(0, false, true), 37);
        c.due("take()", c.x.take(), 37);
        c.due("told(0)", c.x.told(0), 37);
        c.due("stray is of the latest read", c.x.told(4), 1);
        c.due("read()", c.x.read(), 2);
        c.due("no stray", c.x.told(4), 0);
        c.due("a byte", c.x.byteOf(0, 0), 255);
        c.due("a byte", c.x.byteOf(0, 1), 0);
        c.due("number", c.x.number(1), 1);
    }

    /** "Bytes of the tape (what = 0), of OUT (1), objects (2), values (3), STRAY bytes (4) of the latest read()." */
    private static void told(Checks c) {
        c.read("z 1 0 obj[1 2]endobj zz 2 0 obj } endobj");
        c.x.write(1, false, false);
        int[] due = {40, 1, 2, 3, 3};
        for (int what = 0; what < due.length; what++) {
            c.due("told(" + what + ")", c.x.told(what), due[what]);
        }
        for (int far : FAR) {
            c.dueIndex("told(" + far + ")", () -> c.x.told(far));
        }
        c.dueIndex("told(5)", () -> c.x.told(5));
        c.feed(" zzz");
        c.due("the tape as it is", c.x.told(0), 44);
        c.due("stray as it was", c.x.told(4), 3);
        c.x.read();
        c.due("stray of the latest read", c.x.told(4), 6);
    }
}
