/**
 * "Methods throw what their comments name [..]; a call that throws or answers NONE changes nothing": each refused call of
 * each promise, in several states, and then all that the other calls answer. Questions that are answered change nothing, too.
 */
public final class RefusedTest {
    private static final int[] FAR = {-1, Integer.MIN_VALUE, Integer.MAX_VALUE};
    private static final String ROW = "z 1 0 obj<</A 1/B[(b)<4>--2.5]/A null/C/D/Length 9>>stream\nabc\nendstream endobj 2 7 obj [/x } endobj"
        + " 1 0 obj 7 0 R endobj 3 0 obj [/A/B/none(A)] endobj {";

    private final Checks c = new Checks();
    private String state;
    private Answers.Run run;
    private String before;

    public static void main(String[] args) {
        RefusedTest test = new RefusedTest();
        test.onNew();
        test.onRow();
        test.onFullTape();
        test.onAlmostFullTape();
        test.onFullOut();
        test.onTakeTooLong();
        test.c.end();
    }

    private void start(String newState, Answers.Run newRun) {
        state = newState;
        run = newRun;
        before = Answers.behind(newRun);
    }

    interface Refused {
        long on(SyntaxRows x);
    }

    /** The call is made once on its own, to see its answer, and twice behind the run, to see that nothing else changes. */
    private void dueSame(String call, Refused refused) {
        String after = Answers.behind(x -> {
            run.on(x);
            quietly(x, refused);
            quietly(x, refused);
        });
        c.dueText(state + ": " + call + " changes nothing, so that the answers", after, before);
    }

    private static void quietly(SyntaxRows x, Refused refused) {
        try {
            refused.on(x);
        } catch (IllegalArgumentException | IndexOutOfBoundsException e) {
            // What it throws is looked at by those who call this.
        }
    }

    private SyntaxRows made() {
        SyntaxRows x = new SyntaxRows();
        run.on(x);
        return x;
    }

    private void dueNone(String call, Refused refused) {
        c.due(state + ": " + call, refused.on(made()), SyntaxRows.NONE);
        dueSame(call, refused);
    }

    private void dueIndex(String call, Refused refused) {
        c.dueIndex(state + ": " + call, () -> refused.on(made()));
        dueSame(call, refused);
    }

    private void dueArgument(int n) {
        c.dueThrow(state + ": feed(" + n + ", -1)", IllegalArgumentException.class, () -> made().feed(n, -1L));
        dueSame("feed(" + n + ", -1)", x -> x.feed(n, -1L));
    }

    private void dueAnswered(String call, long due, Refused question) {
        c.due(state + ": " + call, question.on(made()), due);
        dueSame(call, question);
    }

    private void onNew() {
        start("new", x -> { });
        dueArgument(0);
        dueArgument(9);
        for (int far : FAR) {
            dueArgument(far);
            noSuchObject(far);
            noSuchValue(far);
            noSuchByteOfOut(far);
            noSuchToldWhat(far);
        }
        noSuchObject(0);
        noSuchValue(0);
        noSuchByteOfOut(0);
        noSuchToldWhat(5);
        dueNone("find(0, 0)", x -> x.find(0, 0));
    }

    private void noSuchObject(int i) {
        dueIndex("object(" + i + ", 0)", x -> x.object(i, 0));
        dueIndex("object(" + i + ", -1)", x -> x.object(i, -1));
        dueIndex("object(" + i + ", 8)", x -> x.object(i, 8));
    }

    private void noSuchValue(int v) {
        dueIndex("value(" + v + ", 0)", x -> x.value(v, 0));
        dueIndex("value(" + v + ", 3)", x -> x.value(v, 3));
        dueIndex("number(" + v + ")", x -> x.number(v));
        dueIndex("byteOf(" + v + ", 0)", x -> x.byteOf(v, 0));
        dueIndex("byteOf(" + v + ", -1)", x -> x.byteOf(v, -1));
        dueIndex("child(" + v + ", 0)", x -> x.child(v, 0));
        dueIndex("child(" + v + ", -1)", x -> x.child(v, -1));
        dueIndex("lookup(" + v + ", " + v + ")", x -> x.lookup(v, v));
        dueIndex("write(" + v + ", false, false)", x -> x.write(v, false, false));
        dueIndex("write(" + v + ", true, false)", x -> x.write(v, true, false));
    }

    private void noSuchByteOfOut(int i) {
        dueNone("out(" + i + ")", x -> x.out(i));
    }

    private void noSuchToldWhat(int what) {
        dueIndex("told(" + what + ")", x -> x.told(what));
    }

    /**
     * Values: 0 <<, 1 /A, 2 1, 3 /B, 4 [, 5 (b), 6 <4>, 7 --2.5, 8 /A, 9 null, 10 /C, 11 /D, 12 /Length, 13 9, 14 the stream;
     * 15 7 0 R; 16 [, 17 /A, 18 /B, 19 /none, 20 (A).
     */
    private void onRow() {
        start("a row", x -> {
            Checks.feed(x, ROW);
            x.read();
            x.write(4, true, false);
        });
        c.due("objects", made().told(2), 4);
        c.due("values", made().told(3), 21);
        for (int far : FAR) {
            noSuchObject(far);
            noSuchValue(far);
            noSuchByteOfOut(far);
            noSuchToldWhat(far);
            dueIndex("object(0, " + far + ")", x -> x.object(0, far));
            dueIndex("value(0, " + far + ")", x -> x.value(0, far));
            dueIndex("lookup(0, " + far + ")", x -> x.lookup(0, far));
            dueIndex("lookup(" + far + ", 3)", x -> x.lookup(far, 3));
            dueNone("byteOf(14, " + far + ")", x -> x.byteOf(14, far));
            dueNone("child(4, " + far + ")", x -> x.child(4, far));
            dueNone("find(" + far + ", 0)", x -> x.find(far, 0));
            dueNone("find(1, " + far + ")", x -> x.find(1, far));
        }
        noSuchObject(4);
        noSuchValue(21);
        dueIndex("object(3, 8)", x -> x.object(3, 8));
        dueIndex("value(20, 3)", x -> x.value(20, 3));
        dueIndex("lookup(0, 21)", x -> x.lookup(0, 21));
        dueIndex("lookup(21, 0)", x -> x.lookup(21, 0));
        noSuchToldWhat(5);
        noneOfRow();
        answeredOfRow();
    }

    private void noneOfRow() {
        dueNone("out(14)", x -> x.out(14));
        dueNone("find of one with a fault", x -> x.find(2, 7));
        dueNone("find(1, 1)", x -> x.find(1, 1));
        dueNone("byteOf a whole number", x -> x.byteOf(2, 0));
        dueNone("byteOf(14, 3)", x -> x.byteOf(14, 3));
        dueNone("child of a name", x -> x.child(3, 0));
        dueNone("child(4, 3)", x -> x.child(4, 3));
        dueNone("child(14, 1)", x -> x.child(14, 1));
        dueNone("lookup of what went", x -> x.lookup(0, 1));
        dueNone("lookup of what was never there", x -> x.lookup(14, 19));
        dueNone("lookup by a string", x -> x.lookup(0, 20));
        dueNone("lookup in an array", x -> x.lookup(16, 17));
    }

    private void answeredOfRow() {
        dueAnswered("told(4)", 2, x -> x.told(4));
        dueAnswered("object(1, 3)", 2, x -> x.object(1, 3));
        dueAnswered("find(1, 0)", 2, x -> x.find(1, 0));
        dueAnswered("value(14, 2)", 3, x -> x.value(14, 2));
        dueAnswered("number(7)", -2500000, x -> x.number(7));
        dueAnswered("byteOf(14, 2)", 'c', x -> x.byteOf(14, 2));
        dueAnswered("child(0, 5)", 13, x -> x.child(0, 5));
        dueAnswered("lookup(14, 18)", 4, x -> x.lookup(14, 18));
        dueAnswered("out(13)", ']', x -> x.out(13));
    }

    /** 1600 bytes: not one more, and a wrong n is told before that. */
    private void onFullTape() {
        start("a full tape", x -> {
            Checks.feed(x, ROW + " ".repeat(1600 - ROW.length() - 1) + "z");
            x.read();
            x.write(0, false, true);
        });
        c.due("bytes of a full tape", made().told(0), 1600);
        for (int n = 1; n <= 8; n++) {
            int more = n;
            dueNone("feed(" + n + ", ..)", x -> x.feed(more, 0x7A7A7A7A7A7A7A7AL));
        }
        dueArgument(0);
        dueArgument(9);
    }

    /** Room for seven bytes: eight are refused whole. */
    private void onAlmostFullTape() {
        start("a tape of 1593", x -> {
            Checks.feed(x, ROW + " ".repeat(1593 - ROW.length() - 1) + "z");
            x.read();
        });
        dueNone("feed(8, ..)", x -> x.feed(8, 0x7A7A7A7A7A7A7A7AL));
        c.due("feed(7, ..)", made().feed(7, 0x7A7A7A7A7A7A7AL), 1600);
    }

    /** OUT has 4000 bytes, and what is written otherwise has more. */
    private void onFullOut() {
        String names = ("/" + "#".repeat(40)).repeat(33);
        start("OUT of 4000", x -> {
            Checks.feed(x, "1 0 obj[" + names + "(abc)]endobj");
            x.read();
            x.write(0, false, false);
        });
        c.due("bytes of OUT", made().told(1), 4000);
        dueNone("write(0, true, false)", x -> x.write(0, true, false));
        dueNone("write(0, false, true)", x -> x.write(0, false, true));
        dueNone("write(-1, true, true)", x -> x.write(-1, true, true));
        dueIndex("write(-1, true, false)", x -> x.write(-1, true, false));
        dueNone("take()", x -> x.take());
        dueNone("out(4000)", x -> x.out(4000));
        start("OUT of 1, and a value of 4001", x -> {
            Checks.feed(x, "1 0 obj[" + names + "(abcd)]endobj 2 0 obj 7 endobj");
            x.read();
            x.write(x.object(1, 2), false, false);
        });
        c.due("bytes of OUT", made().told(1), 1);
        dueNone("write(0, false, false)", x -> x.write(0, false, false));
        dueNone("write(0, true, true)", x -> x.write(0, true, true));
    }

    /** OUT has 1601 bytes: the tape stays as it is. */
    private void onTakeTooLong() {
        start("OUT of 1601", x -> {
            Checks.feed(x, "1 0 obj[" + ("/" + "#".repeat(38)).repeat(13) + "/" + "#".repeat(32) + "(abcde)]endobj");
            x.read();
            x.write(0, false, false);
            x.wipe();
            Checks.feed(x, "5 0 obj /q endobj");
        });
        c.due("bytes of OUT", made().told(1), 1601);
        dueNone("take()", x -> x.take());
    }
}
