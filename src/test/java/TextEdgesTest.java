/** Terms: names and strings, each sentence on both sides of its bound. */
public final class TextEdgesTest {
    private static final int NAME = SyntaxRows.NAME;
    private static final int STRING = SyntaxRows.STRING;
    private static final int ODD = SyntaxRows.ODD;

    public static void main(String[] args) {
        Checks c = new Checks();
        emptyNames(c);
        codedBytes(c);
        codedZero(c);
        fortyBytes(c);
        fortyBytesAtTheEnd(c);
        emptyStrings(c);
        pairs(c);
        octal(c);
        octalWrapsRound(c);
        lineEnds(c);
        twoHundredBytes(c);
        tooLongAsSoonAs(c);
        figureStrings(c);
        leftOver(c);
        leftOverAsLast(c);
        percentInFigures(c);
        c.end();
    }

    /** "/ and regular bytes (perhaps none)". */
    private static void emptyNames(Checks c) {
        c.dueBytes("/", NAME, 0, "");
        c.dueBytes("/a", NAME, 0, "a");
        int v = c.dueValue("[//]", SyntaxRows.ARRAY, 0);
        c.due("two empty names", c.x.value(v, 1), 2);
        v = c.dueValue("<</ 5/ 6>>", SyntaxRows.DICTIONARY, SyntaxRows.DOUBLE);
        c.due("an empty key", c.x.number(c.x.lookup(v, 1)), 6);
        c.dueEnd("1 0 obj /", 0);
    }

    /** "# and two figures of base 16 [..]; any other # for itself". */
    private static void codedBytes(Checks c) {
        c.dueBytes("/#01#ff#FF#aB", NAME, 0, "\u0001\u00ff\u00ff\u00ab");
        c.dueBytes("/#41", NAME, 0, "A");
        c.dueBytes("/#4", NAME, 0, "#4");
        c.dueBytes("/#", NAME, 0, "#");
        c.dueBytes("/##", NAME, 0, "##");
        c.dueBytes("/#4g", NAME, 0, "#4g");
        c.dueBytes("/#g4", NAME, 0, "#g4");
        c.dueBytes("/##41", NAME, 0, "#A");
        c.dueBytes("/#4#41", NAME, 0, "#4A");
        c.dueBytes("/#411", NAME, 0, "A1");
        c.dueBytes("/#2341", NAME, 0, "#41");
        // The figures must stand in the name itself.
        int v = c.dueValue("[/#/41/#4 1]", SyntaxRows.ARRAY, 0);
        c.due("/#, /41, /#4, 1", c.x.value(v, 1), 4);
    }

    /** "standing for a byte, not 0"; "3 a name with #00 [..]: at its first byte". */
    private static void codedZero(Checks c) {
        c.dueBytes("/#01", NAME, 0, "\u0001");
        c.dueBytes("/#10", NAME, 0, "\u0010");
        c.dueBytes("/#0", NAME, 0, "#0");
        c.dueFaultIn("/#00", 3, 0, 0);
        c.dueFaultIn("/a#001", 3, 0, 0);
        c.dueFaultIn("/##00", 3, 0, 0);
        c.dueFaultIn("[1 /a#00]", 3, 3, 0);
        c.dueFaultIn("<</a 1/#00 2>>", 3, 6, 0);
        c.dueFaultIn("<</a/#00>>", 3, 4, 0);
        c.dueFault("1 0 obj /#00", 3, 8, 0);
    }

    /** "40 bytes at most". */
    private static void fortyBytes(Checks c) {
        String[] units = {"x", "#41", "#", "#4g"};
        String[] meant = {"x", "A", "#", "#4g"};
        for (int i = 0; i < units.length; i++) {
            int most = 40 / meant[i].length();
            String rest = "y".repeat(40 - most * meant[i].length());
            c.dueBytes("/" + units[i].repeat(most) + rest, NAME, 0, meant[i].repeat(most) + rest);
            c.dueFaultIn("/" + units[i].repeat(most) + rest + "z", 3, 0, 0);
            c.dueFaultIn("/" + rest + "z" + units[i].repeat(most), 3, 0, 0);
        }
        c.dueFaultIn("/" + "x".repeat(40) + "#41", 3, 0, 0);
        c.dueFaultIn("/" + "x".repeat(40) + "#00", 3, 0, 0);
        c.dueFaultIn("/" + "x".repeat(1500), 3, 0, 0);
        int v = c.dueValue("<</" + "k".repeat(40) + " 5>>", SyntaxRows.DICTIONARY, 0);
        c.due("a key of 40", c.x.value(c.x.child(v, 0), 2), 40);
        c.dueFaultIn("<</" + "k".repeat(41) + " 5>>", 3, 2, 0);
        c.dueFaultIn("[/" + "x".repeat(40) + "/" + "x".repeat(41) + "]", 3, 42, 0);
    }

    /** "it is too long as soon as the 201st comes (names likewise)". */
    private static void fortyBytesAtTheEnd(Checks c) {
        c.dueEnd("1 0 obj /" + "x".repeat(40), 0);
        c.dueFault("1 0 obj /" + "x".repeat(41), 3, 8, 0);
        c.dueFaultIn("/" + "x".repeat(40) + "\u00ff", 2, 41, 0);
        c.dueFaultIn("/" + "x".repeat(41) + "\u00ff", 3, 0, 0);
    }

    private static void emptyStrings(Checks c) {
        c.dueBytes("()", STRING, 0, "");
        c.dueBytes("(\\\n)", STRING, 0, "");
        c.dueBytes("<>", STRING, 0, "");
        c.dueBytes("<\0\t\n\f\r >", STRING, 0, "");
        c.dueEnd("1 0 obj (", 0);
        c.dueEnd("1 0 obj <", 0);
    }

    /** "( up to the ) that closes it: brackets inside may come in pairs". */
    private static void pairs(Checks c) {
        c.dueBytes("(())", STRING, 0, "()");
        c.dueBytes("(()())", STRING, 0, "()()");
        c.dueBytes("(" + "(".repeat(100) + ")".repeat(100) + ")", STRING, 0, "(".repeat(100) + ")".repeat(100));
        c.dueBytes("(\\()", STRING, 0, "(");
        c.dueBytes("(\\))", STRING, 0, ")");
        c.dueBytes("((\\)))", STRING, 0, "())");
        c.dueBytes("(\\50)", STRING, 0, "(");
        c.dueEnd("1 0 obj (() endobj", 0);
        c.dueEnd("1 0 obj (\\) endobj", 0);
        c.dueFaultIn("())", 2, 2, 0);
        c.dueFaultIn("(\\())", 2, 4, 0);
    }

    /** "\ and one to three figures 0 .. 7". */
    private static void octal(Checks c) {
        c.dueBytes("(\\0)", STRING, 0, "\0");
        c.dueBytes("(\\7)", STRING, 0, "\7");
        c.dueBytes("(\\8)", STRING, 0, "8");
        c.dueBytes("(\\07)", STRING, 0, "\7");
        c.dueBytes("(\\08)", STRING, 0, "\0" + "8");
        c.dueBytes("(\\007)", STRING, 0, "\7");
        c.dueBytes("(\\008)", STRING, 0, "\0" + "8");
        c.dueBytes("(\\0007)", STRING, 0, "\0" + "7");
        c.dueBytes("(\\1\\2)", STRING, 0, "\1\2");
        c.dueBytes("(\\1/\\1:\\11/\\11:)", STRING, 0, "\1/\1:\t/\t:");
        c.dueEnd("1 0 obj (\\", 0);
        c.dueEnd("1 0 obj (\\1", 0);
        c.dueEnd("1 0 obj (\\12", 0);
        c.dueEnd("1 0 obj (\\123", 0);
    }

    /** "for the lowest eight bits of that number". */
    private static void octalWrapsRound(Checks c) {
        c.dueBytes("(\\377)", STRING, 0, "\u00ff");
        c.dueBytes("(\\400)", STRING, 0, "\0");
        c.dueBytes("(\\401)", STRING, 0, "\1");
        c.dueBytes("(\\777)", STRING, 0, "\u00ff");
        c.dueBytes("(\\501)", STRING, 0, "A");
    }

    /** "\ and the end of a line (13 10, or one of them) for nothing"; "an end of a line without \ for 10". */
    private static void lineEnds(Checks c) {
        c.dueBytes("(\\\r\n)", STRING, 0, "");
        c.dueBytes("(\\\r)", STRING, 0, "");
        c.dueBytes("(\\\n)", STRING, 0, "");
        c.dueBytes("(\\\n\r)", STRING, 0, "\n");
        c.dueBytes("(\\\r\r)", STRING, 0, "\n");
        c.dueBytes("(\\\r\\\n)", STRING, 0, "");
        c.dueBytes("(\r\n)", STRING, 0, "\n");
        c.dueBytes("(\r)", STRING, 0, "\n");
        c.dueBytes("(\n)", STRING, 0, "\n");
        c.dueBytes("(\n\r)", STRING, 0, "\n\n");
        c.dueBytes("(\r\r\n\n)", STRING, 0, "\n\n\n");
        c.dueEnd("1 0 obj (\\\r", 0);
        c.dueEnd("1 0 obj (\r", 0);
    }

    /** "200 bytes at most"; "3 a name or string that is too long: at its first byte". */
    private static void twoHundredBytes(Checks c) {
        String full = "x".repeat(200);
        c.dueBytes("(" + full + ")", STRING, 0, full);
        c.dueBytes("(" + full + "\\\r\n\\\n\\\r)", STRING, 0, full);
        c.dueBytes("(" + "\\050".repeat(200) + ")", STRING, 0, "(".repeat(200));
        c.dueBytes("(" + "\r\n".repeat(200) + ")", STRING, 0, "\n".repeat(200));
        c.dueBytes("<" + "7 8 ".repeat(200) + ">", STRING, 0, full);
        String[] more = {"x", "()", "\\050", "\\)", "\r", "\n", "\r\n", "\0", "\u00ff"};
        for (String one : more) {
            c.dueFaultIn("(" + full + one + ")", 3, 0, 0);
            c.dueFaultIn("[ 1 (" + full + one + ")]", 3, 4, 0);
        }
        c.dueFaultIn("<" + "78".repeat(201) + ">", 3, 0, 0);
        c.dueFaultIn("<</a<" + "78".repeat(201) + ">>>", 3, 4, 0);
        c.dueFaultIn("(" + "x".repeat(1500) + ")", 3, 0, 0);
    }

    /** "it is too long as soon as the 201st comes": no other fault behind it counts. */
    private static void tooLongAsSoonAs(Checks c) {
        c.dueEnd("1 0 obj (" + "x".repeat(200), 0);
        c.dueEnd("1 0 obj (" + "x".repeat(200) + "\\", 0);
        c.dueEnd("1 0 obj (" + "x".repeat(200) + "\\\r", 0);
        c.dueFault("1 0 obj (" + "x".repeat(201), 3, 8, 0);
        c.dueFault("1 0 obj (" + "x".repeat(200) + "(", 3, 8, 0);
        c.dueEnd("1 0 obj <" + "78".repeat(200), 0);
        c.dueEnd("1 0 obj <" + "78".repeat(200) + "7", 0);
        c.dueFault("1 0 obj <" + "78".repeat(201), 3, 8, 0);
        c.dueFaultIn("<" + "78".repeat(200) + "z", 2, 401, 0);
        c.dueFaultIn("<" + "78".repeat(200) + "7z", 2, 402, 0);
        c.dueFaultIn("<" + "78".repeat(201) + "z", 3, 0, 0);
    }

    private static void figureStrings(Checks c) {
        c.dueBytes("<00>", STRING, 0, "\0");
        c.dueBytes("<fFFf>", STRING, 0, "\u00ff\u00ff");
        c.dueBytes("<0\n9\r\naf AF>", STRING, 0, "\u0009\u00af\u00af");
        c.dueEnd("1 0 obj <7", 0);
        c.dueEnd("1 0 obj <78", 0);
        c.dueFaultIn("<7<8>", 2, 2, 0);
        c.dueFaultIn("<7(8>", 2, 2, 0);
    }

    /** "of one that is left over the other is 0 (ODD [..])". */
    private static void leftOver(Checks c) {
        c.dueBytes("<78>", STRING, 0, "x");
        c.dueBytes("<7>", STRING, ODD, "p");
        c.dueBytes("<787>", STRING, ODD, "xp");
        c.dueBytes("<0>", STRING, ODD, "\0");
        c.dueBytes("< 7 >", STRING, ODD, "p");
        c.dueBytes("<f>", STRING, ODD, "\u00f0");
    }

    /** "but if it would be the 201st byte 3 comes [..] and ODD is not told". */
    private static void leftOverAsLast(Checks c) {
        c.dueBytes("<" + "78".repeat(199) + "7>", STRING, ODD, "x".repeat(199) + "p");
        c.dueBytes("<" + "78".repeat(200) + ">", STRING, 0, "x".repeat(200));
        c.dueFaultIn("<" + "78".repeat(200) + "7>", 3, 0, 0);
        c.dueFaultIn("[<7> <" + "78".repeat(200) + "7>]", 3, 5, ODD);
        c.dueFaultIn("[<" + "78".repeat(200) + "7> <7>]", 3, 1, 0);
    }

    /** "(% is none here)". */
    private static void percentInFigures(Checks c) {
        c.dueFaultIn("<78%\n>", 2, 3, 0);
        c.dueFaultIn("<%>", 2, 1, 0);
        c.dueFaultIn("<%\n78>", 2, 1, 0);
        c.dueBytes("(%\n78)", STRING, 0, "%\n78");
        c.due("% between < and <", c.read("1 0 obj <<%x\n/a%y\n5%z\n>> endobj"), 1);
        c.due("% in a dictionary", c.x.object(0, 3), 0);
    }
}
