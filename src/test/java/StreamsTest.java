/** Streams: how many bytes they have, what is noted of them and what is wrong with them. */
public final class StreamsTest {
    public static void main(String[] args) {
        Checks c = new Checks();
        truthful(c);
        lying(c);
        byReference(c);
        shape(c);
        faults(c);
        longest(c);
        c.end();
    }

    /** An object of a dictionary and what stands behind it: the stream's bytes. */
    private static void due(Checks c, String inside, String behind, int noted, String bytes) {
        String text = "1 0 obj<<" + inside + ">>" + behind;
        c.due(text + " objects", c.read(text), 1);
        c.due(text + " fault", c.x.object(0, 3), 0);
        c.due(text + " noted", c.x.object(0, 5), noted);
        c.due(text + " stray", c.x.told(4), 0);
        c.due(text + " ends", c.x.object(0, 7), text.length());
        int v = c.x.object(0, 2);
        if (v >= 0) {
            c.due(text + " kind", c.x.value(v, 0), SyntaxRows.STREAM);
            c.dueText(text + " bytes", c.bytes(v), bytes);
        }
    }

    private static void truthful(Checks c) {
        due(c, "/Length 3", "stream\nabc\nendstream endobj", 0, "abc");
        due(c, "/Length 3", "%x\n stream\r\nabc\r\nendstream%y\nendobj", 0, "abc");
        due(c, "/Length 3", "stream\nabc\rendstream endobj", 0, "abc");
        due(c, "/Length 3", "stream\nabcendstream endobj", 0, "abc");
        due(c, "/Length 4", "stream\nabc\nendstream endobj", 0, "abc\n");
        due(c, "/Length 4", "stream\nabc\r\nendstream endobj", 0, "abc\r");
        due(c, "/Length 5", "stream\nabc\r\nendstream endobj", 0, "abc\r\n");
        due(c, "/Length 0", "stream\nendstream endobj", 0, "");
        due(c, "/Length 0", "stream\r\n\r\nendstream endobj", 0, "");
        due(c, "/Length 1", "stream\n\nendstream endobj", 0, "\n");
        due(c, "/Length 12", "stream\na endstream \nendstream endobj", 0, "a endstream ");
        due(c, "/Length 3", "stream\n\0\u00ff%\nendstream endobj", 0, "\0\u00ff%");
        due(c, "/Le#6egth 3", "stream\nabc\nendstream endobj", 0, "abc");
        due(c, "/Length 9/Length 3", "stream\nabc\nendstream endobj", SyntaxRows.DOUBLE, "abc");
        due(c, "/Length --0", "stream\nendstream endobj", SyntaxRows.ODD, "");
    }

    private static void lying(Checks c) {
        int lies = SyntaxRows.LIES;
        due(c, "", "stream\nabc\nendstream endobj", lies, "abc");
        due(c, "", "stream\nabcendstreamendobj", lies, "abc");
        due(c, "", "stream\nabc\r\nendstream\nendobj", lies, "abc");
        due(c, "", "stream\nabc\rendstream\nendobj", lies, "abc");
        due(c, "", "stream\nabc\n\rendstream\nendobj", lies, "abc\n");
        due(c, "", "stream\nabc\n\nendstream\nendobj", lies, "abc\n");
        due(c, "", "stream\nendstream endobj", lies, "");
        due(c, "", "stream\r\nendstream endobj", lies, "");
        due(c, "", "stream\n\nendstream endobj", lies, "");
        due(c, "", "stream\r\n\r\nendstream endobj", lies, "");
        due(c, "/Length 2", "stream\nabc\nendstream endobj", lies, "abc");
        due(c, "/Length 5", "stream\nabc\nendstream endobj", lies, "abc");
        due(c, "/Length 3", "stream\nabc endstream endobj", lies, "abc ");
        due(c, "/Length 3", "stream\nabcendstreamendobj", lies, "abc");
        due(c, "/Length 3", "stream\nabc\n\nendstream endobj", lies, "abc\n");
        due(c, "/Length 999999999", "stream\nabc\nendstream endobj", lies, "abc");
        due(c, "/Length -1", "stream\nabc\nendstream endobj", lies, "abc");
        due(c, "/Length 3.", "stream\nabc\nendstream endobj", lies, "abc");
        due(c, "/Length(3)", "stream\nabc\nendstream endobj", lies, "abc");
        due(c, "/Length null", "stream\nabc\nendstream endobj", lies, "abc");
        due(c, "/Length 3/Length null", "stream\nabc\nendstream endobj", lies | SyntaxRows.DOUBLE, "abc");
        due(c, "/length 3", "stream\nabc\nendstream endobj", lies, "abc");
        due(c, "/Length 1 0 R", "stream\nabc\nendstream endobj", lies, "abc");
    }

    private static void dueLast(Checks c, String before, String length, int noted) {
        String text = before + " 9 0 obj<</Length " + length + ">>stream\nabcdef\nendstream endobj";
        int last = c.read(text) - 1;
        c.due(text + " fault", c.x.object(last, 3), 0);
        c.due(text + " noted", c.x.object(last, 5), noted);
        c.due(text + " bytes", c.x.value(c.x.object(last, 2), 2), 6);
    }

    private static void byReference(Checks c) {
        int lies = SyntaxRows.LIES;
        dueLast(c, "2 0 obj 6 endobj", "2 0 R", 0);
        dueLast(c, "2 0 obj 6 endobj", "2 1 R", lies);
        dueLast(c, "2 3 obj 6 endobj", "2 3 R", 0);
        dueLast(c, "2 0 obj 5 endobj 2 0 obj 6 endobj", "2 0 R", 0);
        dueLast(c, "2 0 obj 6 endobj 2 0 obj 5 endobj", "2 0 R", lies);
        dueLast(c, "2 0 obj 6 endobj 2 0 obj } endobj", "2 0 R", 0);
        dueLast(c, "2 0 obj 6 endobj 2 0 obj /a endobj", "2 0 R", lies);
        dueLast(c, "2 0 obj 6 endobj 3 0 obj 2 0 R endobj", "3 0 R", lies);
        dueLast(c, "2 0 obj 6. endobj", "2 0 R", lies);
        dueLast(c, "2 0 obj -6 endobj", "2 0 R", lies);
        dueLast(c, "9 0 obj 6 endobj", "9 0 R", 0);
        c.read("9 0 obj<</Length 2 0 R>>stream\nabc\nendstream endobj 2 0 obj 3 endobj");
        c.due("what comes later tells nothing", c.x.object(0, 5), lies);
    }

    private static void shape(Checks c) {
        c.read("1 0 obj<</A[1]/Length 3>>stream\nabc\nendstream endobj 2 0 obj 5 endobj");
        int v = c.x.object(0, 2);
        c.due("a stream is behind its dictionary", v, 6);
        c.due("one value", c.x.value(v, 1), 1);
        c.due("three bytes", c.x.value(v, 2), 3);
        c.due("no number", c.x.number(v), 0);
        c.due("its dictionary", c.x.child(v, 0), 0);
        c.due("no second value", c.x.child(v, 1), -1);
        c.due("a byte", c.x.byteOf(v, 2), 'c');
        c.due("no byte", c.x.byteOf(v, 3), -1);
        c.due("the dictionary has no bytes", c.x.value(0, 2), 0);
        c.due("the next object", c.x.object(1, 2), 7);
    }

    private static void faults(Checks c) {
        String head = "1 0 obj<<>>";
        c.dueFault(head + "stream", 1, 17, 0);
        c.dueFault(head + "stream\r", 1, 18, 0);
        c.dueFault(head + "stream\n", 8, 11, 0);
        c.dueFault(head + "stream\nabc endobj", 8, 11, 0);
        c.due("behind that endobj", c.x.object(0, 7), 28);
        c.dueFault(head + "stream abc\nendstream endobj", 2, 17, 0);
        c.dueFault(head + "stream\rabc\nendstream endobj", 2, 18, 0);
        c.dueFault(head + "stream(", 2, 17, 0);
        c.dueFault(head + "stream%\n", 2, 17, 0);
        c.dueFault(head + "streams\nabc\nendstream endobj", 2, 11, 0);
        c.dueFault(head + "stream\nabc\nendstream", 1, 31, SyntaxRows.LIES);
        c.dueFault(head + "stream\nabc\nendstream x endobj", 2, 32, SyntaxRows.LIES);
        c.dueFault(head + "stream\nabc\nendstreamx endobj", 2, 31, SyntaxRows.LIES);
        c.dueFault("1 0 obj<</Length 3>>stream\nabc\nendstream(endobj", 2, 40, 0);
        c.dueFault("1 0 obj[<<>>stream\nabc\nendstream] endobj", 2, 12, 0);
        c.dueFault("1 0 obj[]stream\nabc\nendstream endobj", 2, 9, 0);
        c.due("its values are no more", c.x.told(3), 0);
    }

    private static void longest(Checks c) {
        due(c, "/Length 400", "stream\n" + "x".repeat(400) + "\nendstream endobj", 0, "x".repeat(400));
        due(c, "", "stream\n" + "x".repeat(400) + "\nendstream endobj", SyntaxRows.LIES, "x".repeat(400));
        due(c, "/Length 700", "stream\n" + "x".repeat(400) + "\nendstream endobj", SyntaxRows.LIES, "x".repeat(400));
        c.dueFault("1 0 obj<</Length 401>>stream\n" + "x".repeat(401) + "\nendstream endobj", 8, 22, 0);
        c.dueFault("1 0 obj<</Length 401>>stream\n" + "x".repeat(400) + "\nendstream endobj", 8, 22, 0);
        c.dueFault("1 0 obj<<>>stream\n" + "x".repeat(401) + "\nendstream endobj", 8, 11, SyntaxRows.LIES);
        c.due("behind endobj", c.x.object(0, 7), c.x.told(0));
    }
}
