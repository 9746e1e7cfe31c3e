/** Terms: streams, how many bytes they have, and what is told of them, each sentence on both sides of its bound. */
public final class StreamEdgesTest {
    private static final int LIES = SyntaxRows.LIES;

    public static void main(String[] args) {
        Checks c = new Checks();
        onlyOfADictionary(c);
        lineBehindTheWord(c);
        tapeEndsBehindTheWord(c);
        lineBeforeEndstream(c);
        wordBehindSoManyBytes(c);
        empty(c);
        lengthOfZeroAndBelow(c);
        lengthThatIsNoWholeNumber(c);
        lengthTooSmallOrTooLarge(c);
        lengthFarTooLarge(c);
        lengthByReference(c);
        soughtAtAll(c);
        soughtLessALine(c);
        atMost400(c);
        atMost400Sought(c);
        withoutEndstream(c);
        behindEndstream(c);
        answers(c);
        c.end();
    }

    private static void due(Checks c, String inside, String behind, int noted, String bytes) {
        String text = "1 0 obj<<" + inside + ">>" + behind;
        c.due(text + " objects", c.read(text), 1);
        c.due(text + " fault", c.x.object(0, 3), 0);
        c.due(text + " noted", c.x.object(0, 5), noted);
        c.due(text + " ends", c.x.object(0, 7), text.length());
        int v = c.x.object(0, 2);
        if (v >= 0) {
            c.due(text + " kind", c.x.value(v, 0), SyntaxRows.STREAM);
            c.due(text + " values", c.x.value(v, 1), 1);
            c.due(text + " last value", v, c.x.told(3) - 1);
            c.dueText(text + " bytes", c.bytes(v), bytes);
        }
    }

    /** "then perhaps a STREAM, if it is a dictionary". */
    private static void onlyOfADictionary(Checks c) {
        String stream = "stream\nendstream";
        due(c, "/Length 0", stream + " endobj", 0, "");
        c.dueValue("<</Length 0>>", SyntaxRows.DICTIONARY, 0);
        String[] others = {"null", "5", "1.", "1 0 R"};
        for (String other : others) {
            c.dueFaultIn(other + " " + stream, 2, other.length() + 1, 0);
        }
        c.dueFaultIn("[]" + stream, 2, 2, 0);
        c.dueFaultIn("(a)" + stream, 2, 3, 0);
        c.dueFaultIn("<41>" + stream, 2, 4, 0);
        c.dueFaultIn("[<<>>" + stream + "]", 2, 5, 0);
        c.dueFaultIn("<</A<<>>" + stream + ">>", 7, 8, 0);
        c.dueFaultIn("<<>>" + stream + " " + stream, 2, 21, LIES);
    }

    /** "the word stream, 13 10 or 10"; "behind the word stream, too, and at the byte behind a 13 there that is no 10". */
    private static void lineBehindTheWord(Checks c) {
        due(c, "/Length 1", "stream\nx\nendstream endobj", 0, "x");
        due(c, "/Length 1", "stream\r\nx\nendstream endobj", 0, "x");
        due(c, "/Length 2", "stream\n\rx\nendstream endobj", 0, "\rx");
        due(c, "/Length 2", "stream\n\nx\nendstream endobj", 0, "\nx");
        c.dueFault("1 0 obj<<>>stream\rx\nendstream endobj", 2, 18, 0);
        c.dueFault("1 0 obj<<>>stream\r\r\nx\nendstream endobj", 2, 18, 0);
        c.dueFault("1 0 obj<<>>stream \nx\nendstream endobj", 2, 17, 0);
        c.dueFault("1 0 obj<<>>stream%\nx\nendstream endobj", 2, 17, 0);
        c.dueFault("1 0 obj<<>>stream(x\nendstream endobj", 2, 17, 0);
        c.dueFault("1 0 obj<<>>streamx\nendstream endobj", 2, 11, 0);
        c.dueFault("1 0 obj<<>> strea\nx\nendstream endobj", 2, 12, 0);
        due(c, "/Length 1", "%stream\n \t\0stream\nx\nendstream endobj", 0, "x");
    }

    private static void tapeEndsBehindTheWord(Checks c) {
        c.dueEnd("1 0 obj<<>>", 0);
        c.dueEnd("1 0 obj<<>>stream", 0);
        c.dueEnd("1 0 obj<<>>stream\r", 0);
        c.dueFault("1 0 obj<<>>stream\n", 8, 11, 0);
        c.dueFault("1 0 obj<<>>stream\r\n", 8, 11, 0);
        c.dueFault("1 0 obj<</Length 0>>stream\n", 8, 20, 0);
    }

    /** "perhaps an end of a line (13 10, or one of them), and the word endstream". */
    private static void lineBeforeEndstream(Checks c) {
        String[] lines = {"", "\r\n", "\r", "\n"};
        for (String line : lines) {
            due(c, "/Length 3", "stream\nabc" + line + "endstream endobj", 0, "abc");
            due(c, "/Length 0", "stream\n" + line + "endstream endobj", 0, "");
        }
        due(c, "/Length 3", "stream\nabc\n\rendstream endobj", LIES, "abc\n");
        due(c, "/Length 3", "stream\nabc\n\nendstream endobj", LIES, "abc\n");
        due(c, "/Length 3", "stream\nabc\r\rendstream endobj", LIES, "abc\r");
        due(c, "/Length 3", "stream\nabc\r\n\nendstream endobj", LIES, "abc\r\n");
        due(c, "/Length 3", "stream\nabc endstream endobj", LIES, "abc ");
    }

    /** The word endstream behind so many bytes is a whole word; what is sought need not be. */
    private static void wordBehindSoManyBytes(Checks c) {
        due(c, "/Length 3", "stream\nabcendstream%x\nendobj", 0, "abc");
        due(c, "/Length 3", "stream\nabc\nendstreamendobj", LIES, "abc");
        due(c, "/Length 14", "stream\nabc\nendstream \nendstream endobj", 0, "abc\nendstream ");
        due(c, "/Length 17", "stream\nabc endstream xyz\nendstream endobj", 0, "abc endstream xyz");
        due(c, "/Length 12", "stream\nabcendstream\nendstream endobj", 0, "abcendstream");
        c.dueFault("1 0 obj<</Length 11>>stream\nabcendstream\nendstream endobj", 2, 41, LIES);
    }

    private static void empty(Checks c) {
        due(c, "/Length 0", "stream\nendstream endobj", 0, "");
        c.due("bytes", c.x.value(c.x.object(0, 2), 2), 0);
        c.due("byteOf", c.x.byteOf(c.x.object(0, 2), 0), -1);
        due(c, "", "stream\nendstream endobj", LIES, "");
        due(c, "", "stream\n\nendstream endobj", LIES, "");
        due(c, "", "stream\n\r\nendstream endobj", LIES, "");
    }

    /** "if it tells none such (or one below 0; also without a Length)". */
    private static void lengthOfZeroAndBelow(Checks c) {
        due(c, "/Length 0", "stream\nendstream endobj", 0, "");
        due(c, "/Length -0", "stream\nendstream endobj", 0, "");
        due(c, "/Length -1", "stream\nendstream endobj", LIES, "");
        due(c, "/Length -1", "stream\nabc\nendstream endobj", LIES, "abc");
        due(c, "/Length -999999999", "stream\nabc\nendstream endobj", LIES, "abc");
        due(c, "", "stream\nabc\nendstream endobj", LIES, "abc");
        due(c, "/Length null", "stream\nabc\nendstream endobj", LIES, "abc");
        due(c, "/Length 3/Length null", "stream\nabc\nendstream endobj", LIES | SyntaxRows.DOUBLE, "abc");
        due(c, "/Length null/Length 3", "stream\nabc\nendstream endobj", 0, "abc");
        due(c, "/Length 2/Length 3", "stream\nabc\nendstream endobj", SyntaxRows.DOUBLE, "abc");
        due(c, "/A<</Length 3>>", "stream\nabc\nendstream endobj", LIES, "abc");
    }

    private static void lengthThatIsNoWholeNumber(Checks c) {
        String[] others = {" 3.", " 3.0", " true", "(3)", "<33>", "/3", "[3]", "<</Length 3>>"};
        for (String other : others) {
            due(c, "/Length" + other, "stream\nabc\nendstream endobj", LIES, "abc");
        }
        String[] names = {"/length", "/LENGTH", "/Lengt", "/Lengthx", "/Length#20"};
        for (String name : names) {
            due(c, name + " 3", "stream\nabc\nendstream endobj", LIES, "abc");
        }
        due(c, "/#4cength 3", "stream\nabc\nendstream endobj", 0, "abc");
        due(c, "/Length +3", "stream\nabc\nendstream endobj", 0, "abc");
    }

    /** "or behind so many bytes there are not, perhaps behind an end of a line, the word endstream". */
    private static void lengthTooSmallOrTooLarge(Checks c) {
        due(c, "/Length 2", "stream\nabc\nendstream endobj", LIES, "abc");
        due(c, "/Length 3", "stream\nabc\nendstream endobj", 0, "abc");
        due(c, "/Length 4", "stream\nabc\nendstream endobj", 0, "abc\n");
        due(c, "/Length 5", "stream\nabc\nendstream endobj", LIES, "abc");
        due(c, "/Length 3", "stream\nabc\r\nendstream endobj", 0, "abc");
        due(c, "/Length 4", "stream\nabc\r\nendstream endobj", 0, "abc\r");
        due(c, "/Length 5", "stream\nabc\r\nendstream endobj", 0, "abc\r\n");
        due(c, "/Length 6", "stream\nabc\r\nendstream endobj", LIES, "abc");
    }

    private static void lengthFarTooLarge(Checks c) {
        due(c, "/Length 20", "stream\nabc\nendstream endobj", LIES, "abc");
        due(c, "/Length 1600", "stream\nabc\nendstream endobj", LIES, "abc");
        due(c, "/Length 999999999", "stream\nabc\nendstream endobj", LIES, "abc");
        due(c, "/Length 999999999 999999999 R", "stream\nabc\nendstream endobj", LIES, "abc");
    }

    private static void dueLast(Checks c, String before, String length, int noted) {
        String text = before + " 9 9 obj<</Length " + length + ">>stream\nendstream abc\nendstream endobj 8 8 obj 13 endobj";
        int last = c.read(text) - 2;
        int fault = noted == 0 ? 0 : 2;
        c.due(text + " fault", c.x.object(last, 3), fault);
        c.due(text + " noted", c.x.object(last, 5), noted);
    }

    /** "or a reference to an object (number and generation, the latest one that was read so far without a fault) that is one". */
    private static void lengthByReference(Checks c) {
        dueLast(c, "", "13", 0);
        dueLast(c, "", "12", LIES);
        dueLast(c, "1 2 obj 13 endobj", "1 2 R", 0);
        dueLast(c, "1 2 obj 13 endobj", "2 1 R", LIES);
        dueLast(c, "1 2 obj 13 endobj", "1 1 R", LIES);
        dueLast(c, "999999999 999999999 obj 13 endobj", "999999999 999999999 R", 0);
        dueLast(c, "1 2 obj 5 endobj 1 2 obj 13 endobj", "1 2 R", 0);
        dueLast(c, "1 2 obj 13 endobj 1 2 obj 5 endobj", "1 2 R", LIES);
        dueLast(c, "1 2 obj 13 endobj 1 2 obj 5 6 endobj", "1 2 R", 0);
        dueLast(c, "1 2 obj 13 endobj 1 2 obj null endobj", "1 2 R", LIES);
        dueLast(c, "1 2 obj 13 7 endobj", "1 2 R", LIES);
        dueLast(c, "1 2 obj -13 endobj", "1 2 R", LIES);
        dueLast(c, "1 2 obj 13. endobj", "1 2 R", LIES);
        dueLast(c, "1 2 obj[13]endobj", "1 2 R", LIES);
        dueLast(c, "3 4 obj 13 endobj 1 2 obj 3 4 R endobj", "1 2 R", LIES);
        dueLast(c, "9 9 obj 13 endobj", "9 9 R", 0);
        dueLast(c, "", "9 9 R", LIES);
        dueLast(c, "1 2 obj 13 endobj", "9 9 R", LIES);
        dueLast(c, "", "8 8 R", LIES);
    }

    /** "then up to the first nine bytes endstream at all". */
    private static void soughtAtAll(Checks c) {
        due(c, "", "stream\nabcendstream endobj", LIES, "abc");
        due(c, "", "stream\nabcendstreamendobj", LIES, "abc");
        due(c, "", "stream\nendstrea endstream endobj", LIES, "endstrea ");
        due(c, "", "stream\nendstreaendstream endobj", LIES, "endstrea");
        due(c, "", "stream\n%endstream endobj", LIES, "%");
        due(c, "", "stream\n(endstream endobj", LIES, "(");
        c.dueFault("1 0 obj<<>>stream\nabc\nendstreamx\nendstream endobj", 2, 31, LIES);
        c.dueFault("1 0 obj<<>>stream\nxendstream y endstream endobj", 2, 29, LIES);
    }

    /** "less an end of a line (13 10, or one of them) before them". */
    private static void soughtLessALine(Checks c) {
        due(c, "", "stream\nab\r\nendstream endobj", LIES, "ab");
        due(c, "", "stream\nab\rendstream endobj", LIES, "ab");
        due(c, "", "stream\nab\nendstream endobj", LIES, "ab");
        due(c, "", "stream\nab\n\rendstream endobj", LIES, "ab\n");
        due(c, "", "stream\nab\n\nendstream endobj", LIES, "ab\n");
        due(c, "", "stream\nab\r\rendstream endobj", LIES, "ab\r");
        due(c, "", "stream\nab\r\n\r\nendstream endobj", LIES, "ab\r\n");
        due(c, "", "stream\nab \nendstream endobj", LIES, "ab ");
        // The end of the line behind the word stream is none of the stream's.
        due(c, "", "stream\r\nendstream endobj", LIES, "");
        due(c, "", "stream\n\rendstream endobj", LIES, "");
        due(c, "", "stream\r\n\nendstream endobj", LIES, "");
    }

    /** "At most 400."; "8 a stream [..] too long: at the word stream." */
    private static void atMost400(Checks c) {
        String full = "x".repeat(400);
        due(c, "/Length 399", "stream\n" + "x".repeat(399) + "\nendstream endobj", 0, "x".repeat(399));
        due(c, "/Length 400", "stream\n" + full + "\nendstream endobj", 0, full);
        due(c, "/Length 400", "stream\n" + full + "endstream endobj", 0, full);
        due(c, "/Length 400", "stream\n" + full + "\r\nendstream endobj", 0, full);
        c.dueFault("1 0 obj<</Length 401>>stream\n" + full + "x\nendstream endobj", 8, 22, 0);
        c.dueFault("1 0 obj<</Length 401>>stream\n" + full + "\nendstream endobj", 8, 22, 0);
        c.dueFault("1 0 obj<</Length 401>> \nstream\n" + full + "xendstream endobj", 8, 24, 0);
        c.dueFault("1 0 obj<</Length 1500>>stream\n" + "x".repeat(1500) + "\nendstream endobj", 8, 23, 0);
        due(c, "/Length 401", "stream\n" + full + "endstream endobj", LIES, full);
        due(c, "/Length 401", "stream\nabc\nendstream endobj", LIES, "abc");
    }

    private static void atMost400Sought(Checks c) {
        String full = "x".repeat(400);
        due(c, "", "stream\n" + full + "endstream endobj", LIES, full);
        due(c, "", "stream\n" + full + "\nendstream endobj", LIES, full);
        due(c, "", "stream\n" + full + "\r\nendstream endobj", LIES, full);
        c.dueFault("1 0 obj<<>>stream\n" + full + "xendstream endobj", 8, 11, LIES);
        c.dueFault("1 0 obj<<>>stream\n" + full + "\n\nendstream endobj", 8, 11, LIES);
        c.dueFault("1 0 obj<<>>stream\n" + full + "\n\rendstream endobj", 8, 11, LIES);
        c.dueFault("1 0 obj<</Length 3>>stream\n" + full + "x\nendstream endobj", 8, 20, LIES);
        c.due("its values are no more", c.x.told(3), 0);
        c.due("it ends", c.x.object(0, 7), c.x.told(0));
    }

    /** "8 a stream without any endstream [..]: at the word stream." */
    private static void withoutEndstream(Checks c) {
        c.dueFault("1 0 obj<<>>stream\nabc", 8, 11, 0);
        c.dueFault("1 0 obj<<>> \nstream\nabc endobj", 8, 13, 0);
        c.due("reading goes on behind endobj", c.x.object(0, 7), 30);
        c.dueFault("1 0 obj<</Length 3>>stream\nabc\nendstrea", 8, 20, 0);
        c.dueFault("1 0 obj<</Length 999999999>>stream\nabc\nendstrea endobj", 8, 28, 0);
        c.dueFault("1 0 obj<<>>stream\n" + "x".repeat(1500), 8, 11, 0);
        due(c, "/Length 0", "stream\nendstream endobj", 0, "");
    }

    private static void behindEndstream(Checks c) {
        c.dueEnd("1 0 obj<</Length 3>>stream\nabc\nendstream", 0);
        c.dueEnd("1 0 obj<<>>stream\nabc\nendstream", LIES);
        c.dueEnd("1 0 obj<<>>stream\nabc\nendstream %endobj", LIES);
        c.dueFault("1 0 obj<</Length 3>>stream\nabc\nendstream 5 endobj", 2, 41, 0);
        c.dueFault("1 0 obj<</Length 3>>stream\nabc\nendstream endobjx", 2, 41, 0);
        c.dueFault("1 0 obj<</Length 3>>stream\nabc\nendstream endob", 2, 41, 0);
        c.dueFault("1 0 obj<</Length 3>>stream\nabc\nendstream(endobj", 2, 40, 0);
        due(c, "/Length 3", "stream\nabc\nendstream\0%\nendobj", 0, "abc");
    }

    /** Promises 7 to 11 of a stream: its dictionary is its first value, its bytes are its own. */
    private static void answers(Checks c) {
        c.read("1 0 obj<</A/B/Length 400>>stream\n" + "x".repeat(399) + "\u00ff\nendstream endobj");
        int v = c.x.object(0, 2);
        c.due("its number", v, 5);
        c.due("number", c.x.number(v), 0);
        c.due("values", c.x.value(v, 1), 1);
        c.due("bytes", c.x.value(v, 2), 400);
        c.due("bytes of its dictionary", c.x.value(0, 2), 0);
        c.due("byteOf(.., 399)", c.x.byteOf(v, 399), 255);
        c.due("byteOf(.., 400)", c.x.byteOf(v, 400), -1);
        c.due("byteOf(.., -1)", c.x.byteOf(v, -1), -1);
        c.due("byteOf its dictionary", c.x.byteOf(0, 0), -1);
        c.due("child(.., 0)", c.x.child(v, 0), 0);
        c.due("child(.., 1)", c.x.child(v, 1), -1);
        c.due("child(.., -1)", c.x.child(v, -1), -1);
        c.due("lookup A", c.x.lookup(v, 1), 2);
        c.due("lookup B", c.x.lookup(v, 2), -1);
        c.due("lookup Length", c.x.lookup(v, 3), 4);
    }
}
