/** The faults of promises 4 and 5, each with its place, what was noted before it, and which one is met first. */
public final class FaultsTest {
    public static void main(String[] args) {
        Checks c = new Checks();
        tapeEnds(c);
        cannotStand(c);
        texts(c);
        longNumbers(c);
        tooDeep(c);
        noRoom(c);
        noValueWithoutRoom(c);
        keys(c);
        noted(c);
        valuesAreGone(c);
        c.end();
    }

    private static void tapeEnds(Checks c) {
        c.dueEnd("1 0 obj", 0);
        c.dueEnd("1 0 obj %x", 0);
        c.dueEnd("1 0 obj 5", 0);
        c.dueEnd("1 0 obj 5 %endobj", 0);
        c.dueEnd("1 0 obj [1 2", 0);
        c.dueEnd("1 0 obj <<", 0);
        c.dueEnd("1 0 obj <</A", 0);
        c.dueEnd("1 0 obj <</A 1 ", 0);
        c.dueEnd("1 0 obj <</A 1>>", 0);
        c.dueEnd("1 0 obj (a(b)", 0);
        c.dueEnd("1 0 obj (a\\", 0);
        c.dueEnd("1 0 obj (a\\1", 0);
        c.dueEnd("1 0 obj (a\\\r\n", 0);
        c.dueEnd("1 0 obj (" + "x".repeat(200), 0);
        c.dueEnd("1 0 obj <", 0);
        c.dueEnd("1 0 obj <41 4", 0);
        c.dueEnd("1 0 obj [ (a endobj", 0);
        c.dueFault("1 0 obj 5 endob", 2, 10, 0);
        c.dueFault("1 0 obj tru", 2, 8, 0);
    }

    private static void cannotStand(Checks c) {
        String[] never = {")", "}", "{", "]", ">", ">>", "tru", "truex", "nul", "R", "obj", "-", "+-", ".", "-.", "1a", "1.2.3",
            "1-2", "1+", ".-1", "\u007f", "\u0080", "\u00ff", "\u0001", "\u000b", "stream", "1234567890x"};
        for (String value : never) {
            c.dueFaultIn(value, 2, 0, 0);
            c.dueFaultIn("[ 1 " + value + "x", 2, value.equals("]") ? 5 : 4, 0);
        }
        c.dueFaultIn("5 6", 2, 2, 0);
        c.dueFaultIn("5(", 2, 1, 0);
        c.dueFaultIn("5 stream\nendstream", 2, 2, 0);
        c.dueFaultIn("5 endobjx", 2, 2, 0);
        c.dueFaultIn("5\u00ff", 2, 1, 0);
        c.dueFaultIn("<41 4z>", 2, 5, 0);
        c.dueFaultIn("<%4>", 2, 1, 0);
        c.dueFaultIn("<4<", 2, 2, 0);
        c.dueFaultIn("< <", 2, 2, 0);
        c.dueFaultIn("<</A >>", 2, 5, 0);
        c.dueFaultIn("<</A>>", 2, 4, 0);
        c.dueFaultIn("<</A ]", 2, 5, 0);
        c.dueFaultIn("[1 >>", 2, 3, 0);
        c.dueFaultIn("/a\u00ff", 2, 2, 0);
    }

    private static void texts(Checks c) {
        c.dueFaultIn("/a#00b", 3, 0, 0);
        c.dueFaultIn("[1 /a#00b", 3, 3, 0);
        c.dueFaultIn("<</#00 1>>", 3, 2, 0);
        c.dueFaultIn("/" + "x".repeat(41), 3, 0, 0);
        c.dueFaultIn("/" + "x".repeat(40) + "#20", 3, 0, 0);
        c.dueFaultIn("<</A/" + "x".repeat(41), 3, 4, 0);
        c.dueFaultIn("(" + "x".repeat(201) + ")", 3, 0, 0);
        c.dueFaultIn("[(" + "x".repeat(201), 3, 1, 0);
        c.dueFaultIn("[(" + "x".repeat(200) + "\\1", 3, 1, 0);
        c.dueFaultIn("<" + "41".repeat(201), 3, 0, 0);
        c.dueFaultIn("<" + "41".repeat(200) + "4>", 3, 0, 0);
        c.dueFaultIn("<" + "41".repeat(200) + "4z>", 2, 402, 0);
        c.dueFaultIn("<" + "41".repeat(200) + "41z>", 3, 0, 0);
    }

    private static void longNumbers(Checks c) {
        c.dueFaultIn("1234567890", 4, 0, 0);
        c.dueFaultIn("0000000001", 4, 0, 0);
        c.dueFaultIn("-1234567890.", 4, 0, 0);
        c.dueFaultIn(".1234567", 4, 0, 0);
        c.dueFaultIn("1.0000000", 4, 0, 0);
        c.dueFaultIn("[1 --1234567890]", 4, 3, 0);
        c.dueFaultIn("9".repeat(100), 4, 0, 0);
        c.dueFaultIn("1234567890 0 R", 4, 0, 0);
    }

    private static void tooDeep(Checks c) {
        c.dueFaultIn("[[[[[[[[[1]]]]]]]]]", 5, 8, 0);
        c.dueFaultIn("[[[[[[[[ <<>>]]]]]]]]", 5, 9, 0);
        c.dueFaultIn("<</a[<</a[<</a[<</a[[]]>>]>>]>>]>>", 5, 20, 0);
        c.due("side by side", c.read("1 0 obj [[[[[[[[][][]]]]]]]] endobj"), 1);
        c.due("side by side: fault", c.x.object(0, 3), 0);
    }

    private static void noRoom(Checks c) {
        String full = "1 0 obj[" + "/".repeat(299) + "]endobj ";
        c.due("300 values", c.read(full), 1);
        c.due("300 values: fault", c.x.object(0, 3), 0);
        c.due("300 values: told", c.x.told(3), 300);
        c.dueFault("1 0 obj[" + "/".repeat(300) + "]endobj", 6, 307, 0);
        String[] more = {"5", "null", "5 0 R", "(a)", "(a", "<4", "/a#00", "1234567890", "abc", "[]", "<<>>"};
        for (String value : more) {
            c.due(value + " is the 301st", c.read(full + "2 0 obj " + value + " endobj"), 2);
            c.dueFault(value + " is the 301st", 1, 6, full.length() + 8, 0);
            c.due("values stay", c.x.told(3), 300);
        }
        String almost = "1 0 obj[" + "/".repeat(298) + "]endobj ";
        c.due("5 0 R is the 300th", c.read(almost + "2 0 obj 5 0 R endobj"), 2);
        c.due("5 0 R is the 300th: fault", c.x.object(1, 3), 0);
        c.read(almost + "2 0 obj <</A 1>> endobj");
        c.dueFault("a key is the 301st", 1, 6, almost.length() + 10, 0);
        c.read(almost + "2 0 obj <<5 1>> endobj");
        c.dueFault("a key that is no name comes before", 1, 7, almost.length() + 10, 0);
        c.read(almost + "2 0 obj <<>>stream x endobj");
        c.dueFault("a stream is the 301st", 1, 6, almost.length() + 12, 0);
        c.dueFault("1 0 obj[" + "/".repeat(293) + "[[[[[[[ ]", 6, 307, 0);
        c.dueFault("1 0 obj[" + "/".repeat(292) + "[[[[[[[[ ]", 5, 307, 0);
        c.due("faults give room back", c.read("1 0 obj[" + "/".repeat(299) + "}endobj " + full), 2);
        c.due("faults give room back: values", c.x.told(3), 300);
        c.due("faults give room back: fault", c.x.object(1, 3), 0);
    }

    /** A byte with which no value begins is 2, and the tape's end 1, also where a value would have no room. */
    private static void noValueWithoutRoom(Checks c) {
        String[] none = {")", ">", ">>", "{", "}", "\u007f", "\u0080", "\u00ff", "\u0001", "\u000b"};
        String[] begun = {"x", "-", ".", "/", "(", "<", "<z", "<<", "[", "~", "!", "endobj", "stream"};
        String array = "1 0 obj[" + "1 ".repeat(299);
        String held = "1 0 obj[" + "1 ".repeat(297) + "<</A ";
        String whole = "1 0 obj[" + "1 ".repeat(299) + "]endobj 2 0 obj ";
        for (String bytes : none) {
            c.dueFault(array + bytes + " ] endobj", 2, array.length(), 0);
            c.dueFault(held + bytes + ">>] endobj", 2, held.length(), 0);
            c.due(bytes + " as a whole value", c.read(whole + bytes + " endobj"), 2);
            c.dueFault(bytes + " as a whole value", 1, 2, whole.length(), 0);
        }
        c.dueFault(held + "]", 2, held.length(), 0);
        c.read(whole + "] endobj");
        c.dueFault("] as a whole value", 1, 2, whole.length(), 0);
        for (String bytes : begun) {
            c.dueFault(array + bytes + " ] endobj", 6, array.length(), 0);
            c.dueFault(held + bytes + ">>] endobj", 6, held.length(), 0);
        }
        c.dueFault(array, 1, array.length(), 0);
        c.dueFault(held, 1, held.length(), 0);
        c.read(whole);
        c.dueFault("no whole value", 1, 1, whole.length(), 0);
        String key = "1 0 obj[" + "1 ".repeat(298) + "<<";
        c.dueFault(key + ")", 7, key.length(), 0);
        c.dueFault(key + "/", 6, key.length(), 0);
        c.dueFault(key, 1, key.length(), 0);
        c.due("closed when full", c.read(key + ">>]endobj"), 1);
        c.due("closed when full: fault", c.x.object(0, 3), 0);
    }

    private static void keys(Checks c) {
        c.dueFaultIn("<< 5 6 >>", 7, 3, 0);
        c.dueFaultIn("<</A 1 (b) 2>>", 7, 7, 0);
        c.dueFaultIn("<</A 1 > >", 7, 7, 0);
        c.dueFaultIn("<</A 1 ]", 7, 7, 0);
        c.dueFaultIn("<</A 1 \u00ff", 7, 7, 0);
        c.dueFaultIn("<</A 1 2>>", 7, 7, 0);
        c.dueFault("1 0 obj <</A 1 >", 7, 15, 0);
        c.dueFault("1 0 obj <</A 1 endobj", 7, 15, 0);
        c.due("ends at that endobj", c.x.object(0, 7), 21);
    }

    private static void noted(Checks c) {
        c.dueFaultIn("[--1 }", 2, 5, SyntaxRows.ODD);
        c.dueFaultIn("[} --1", 2, 1, 0);
        c.dueFaultIn("[<4> }", 2, 5, SyntaxRows.ODD);
        c.dueFaultIn("[<4} <4>", 2, 3, 0);
        c.dueFaultIn("[<</A 1/A 2>>}", 2, 13, SyntaxRows.DOUBLE);
        c.dueFaultIn("<</A 1/A }", 2, 9, 0);
        c.dueFaultIn("<</A 1/A --2}", 7, 12, SyntaxRows.ODD | SyntaxRows.DOUBLE);
        c.dueFaultIn("--1234567890", 4, 0, 0);
        c.dueFaultIn("<" + "41".repeat(200) + "4>", 3, 0, 0);
        c.dueFaultIn("<4> 5", 2, 4, SyntaxRows.ODD);
    }

    private static void valuesAreGone(Checks c) {
        c.due("read()", c.read("1 0 obj /a endobj 2 0 obj [/b (c) } endobj 3 0 obj (d) endobj"), 3);
        c.due("values", c.x.told(3), 2);
        c.dueText("the first", c.bytes(0), "a");
        c.dueText("the second", c.bytes(1), "d");
        c.due("of object 2", c.x.object(2, 2), 1);
        c.dueIndex("value(2, 0)", () -> c.x.value(2, 0));
    }
}
