/** Terms: WRITTEN at its edges (0, empty, none), the blanks of LEAST and READABLE, and the bounds of OUT. */
public final class WrittenEdgesTest {
    public static void main(String[] args) {
        Checks c = new Checks();
        words(c);
        wholeNumbers(c);
        reals(c);
        references(c);
        names(c);
        strings(c);
        neverInFigures(c);
        emptyOnes(c);
        whatIsNotThere(c);
        leastBlanks(c);
        readableBlanks(c);
        streamLength(c);
        streamLengthOtherwise(c);
        streamBytes(c);
        rows(c);
        rowsOfNone(c);
        out4000(c);
        row4000(c);
        take1600(c);
        takeOfNothing(c);
        c.end();
    }

    private static void due(Checks c, String value, String least, String readable) {
        c.due(value + " objects", c.read("1 0 obj " + value + " endobj"), 1);
        int v = c.x.object(0, 2);
        if (v < 0) {
            c.due(value + " fault", c.x.object(0, 3), 0);
            return;
        }
        c.due(value + " least, bytes", c.x.write(v, false, false), least.length());
        c.due(value + " least, told", c.x.told(1), least.length());
        c.dueText(value + " least", c.out(), least);
        c.due(value + " readable, bytes", c.x.write(v, true, false), readable.length());
        c.dueText(value + " readable", c.out(), readable);
        c.due(value + " behind the last byte", c.x.out(readable.length()), -1);
    }

    private static void due(Checks c, String value, String both) {
        due(c, value, both, both);
    }

    private static void words(Checks c) {
        due(c, "null", "null");
        due(c, "true", "true");
        due(c, "false", "false");
    }

    /** "whole numbers by their figures (- before them)". */
    private static void wholeNumbers(Checks c) {
        due(c, "0", "0");
        due(c, "-0", "0");
        due(c, "000000000", "0");
        due(c, "-1", "-1");
        due(c, "+1", "1");
        due(c, "9", "9");
        due(c, "10", "10");
        due(c, "-10", "-10");
        due(c, "100000000", "100000000");
        due(c, "99999999", "99999999");
        due(c, "999999999", "999999999");
        due(c, "-999999999", "-999999999");
        due(c, "--007", "-7");
        due(c, "100200300", "100200300");
    }

    /** "reals: -, figures before the point (none for 0), a point, figures behind it without zeros at the end (0 is .0)". */
    private static void reals(Checks c) {
        due(c, "0.", ".0");
        due(c, "-.0", ".0");
        due(c, "000000000.000000", ".0");
        due(c, "1.", "1.");
        due(c, "-1.000000", "-1.");
        due(c, "10.", "10.");
        due(c, "0.5", ".5");
        due(c, "-0.50", "-.5");
        due(c, "1.5", "1.5");
        due(c, ".000001", ".000001");
        due(c, "-.000001", "-.000001");
        due(c, ".100000", ".1");
        due(c, ".010", ".01");
        due(c, ".101010", ".10101");
        due(c, ".999999", ".999999");
        due(c, "1.000001", "1.000001");
        due(c, "999999999.", "999999999.");
        due(c, "-999999999.999999", "-999999999.999999");
    }

    private static void references(Checks c) {
        due(c, "0 0 R", "0 0 R");
        due(c, "000000001 000000002 R", "1 2 R");
        due(c, "999999999 999999999 R", "999999999 999999999 R");
        due(c, "0 999999999 R", "0 999999999 R");
        due(c, "999999999 0 R", "999999999 0 R");
    }

    private static void names(Checks c) {
        due(c, "/", "/");
        due(c, "/#21#7E", "/!~");
        due(c, "/#20#7F", "/#20#7F");
        due(c, "/#01#ff", "/#01#FF");
        due(c, "/#", "/#23");
        due(c, "/#zz", "/#23zz");
        due(c, "/#61#2f#25", "/a#2F#25");
        due(c, "/" + "x".repeat(40), "/" + "x".repeat(40));
        due(c, "/" + "#".repeat(40), "/" + "#23".repeat(40));
    }

    private static void strings(Checks c) {
        due(c, "()", "()");
        due(c, "<>", "()");
        due(c, "<00ff>", "(\0\u00ff)");
        due(c, "(\\\\)", "(\\\\)");
        due(c, "(())", "(\\(\\))");
        due(c, "(\\)\\()", "(\\)\\()");
        due(c, "(\\r\r\r\n\n\\n)", "(\\r\n\n\n\n)");
        due(c, "(\\t\\b\\f)", "(\t\b\f)");
        c.read("1 0 obj(" + "x".repeat(200) + ")endobj");
        c.due("200 bytes", c.x.write(0, false, false), 202);
        c.read("1 0 obj<" + "0d".repeat(200) + ">endobj");
        c.due("200 bytes, each of two", c.x.write(0, false, false), 402);
    }

    /** "if < .. > with figures is shorter, that": it never is, as each byte takes two at most; of two as short, ( .. ) stands. */
    private static void neverInFigures(Checks c) {
        due(c, "<28>", "(\\()");
        due(c, "<0d0d>", "(\\r\\r)");
        due(c, "<5c28290d5c28290d>", "(\\\\\\(\\)\\r\\\\\\(\\)\\r)");
    }

    private static void emptyOnes(Checks c) {
        due(c, "[ ]", "[]");
        due(c, "<< >>", "<<>>");
        due(c, "[[][]]", "[[][]]", "[[] []]");
        due(c, "[<<>>()/]", "[<<>>()/]", "[<<>> () /]");
        due(c, "<</[]/a<<>>>>", "<</[]/a<<>>>>", "<</ [] /a <<>>>>");
        due(c, "<</ 1>>", "<</ 1>>");
        due(c, "<<//>>", "<<//>>", "<</ />>");
    }

    /** "[ .. ], << .. >> with keys and values in order": what a dictionary has not is not written. */
    private static void whatIsNotThere(Checks c) {
        due(c, "<</A null>>", "<<>>");
        due(c, "<</A 1/A null>>", "<<>>");
        due(c, "<</A 1/B 2/A null>>", "<</B 2>>");
        due(c, "<</A 1/B 2/A 3>>", "<</A 3/B 2>>", "<</A 3 /B 2>>");
        due(c, "[null]", "[null]");
        c.read("1 0 obj<</A 1/A null>>endobj");
        c.dueText("a key that went", c.least(1), "/A");
        c.dueText("a value that went", c.least(2), "1");
        c.dueText("the null", c.least(4), "null");
    }

    /** "(LEAST) where a word or a name stands before a word, else nothing". */
    private static void leastBlanks(Checks c) {
        String[] values = {"1", "-1", ".5", "null", "true", "1 0 R", "/a", "(a)", "[]", "<<>>"};
        int words = 6;
        for (int i = 0; i < values.length; i++) {
            for (int k = 0; k < values.length; k++) {
                boolean blank = i <= words && k < words;
                String both = values[i] + " " + values[k];
                due(c, "[ " + both + " ]", "[" + (blank ? both : values[i] + values[k]) + "]", "[" + both + "]");
            }
            if (values[i].equals("null")) {
                continue;
            }
            String gap = i < words ? " " : "";
            due(c, "<</k " + values[i] + "/l " + values[i] + ">>", "<</k" + gap + values[i] + "/l" + gap + values[i] + ">>",
                "<</k " + values[i] + " /l " + values[i] + ">>");
        }
    }

    /** "(READABLE) a blank always, but not behind [ and << nor before ] and >>". */
    private static void readableBlanks(Checks c) {
        due(c, "[[1]]", "[[1]]");
        due(c, "[<</a[1]>>]", "[<</a[1]>>]", "[<</a [1]>>]");
        due(c, "[[][[]][]]", "[[][[]][]]", "[[] [[]] []]");
        due(c, "[(a)(b)]", "[(a)(b)]", "[(a) (b)]");
        due(c, "[]", "[]");
        due(c, "[[[[[[[[/a 1]]]]]]]]", "[[[[[[[[/a 1]]]]]]]]");
    }

    private static String stream(Checks c, String inside, String bytes, boolean readable) {
        c.read("1 0 obj<<" + inside + ">>stream\n" + bytes + "\nendstream endobj");
        return readable ? c.readable(c.x.object(0, 2)) : c.least(c.x.object(0, 2));
    }

    /** "but the value of Length (it comes last, if there is none) being how many bytes it has". */
    private static void streamLength(Checks c) {
        c.dueText("Length alone", stream(c, "/Length 1", "x", false), "<</Length 1>>\nstream\nx\nendstream");
        c.dueText("Length first", stream(c, "/Length 1/A/B", "x", false), "<</Length 1/A/B>>\nstream\nx\nendstream");
        c.dueText("Length in the midst", stream(c, "/A 1/Length 1/B 2", "x", true), "<</A 1 /Length 1 /B 2>>\nstream\nx\nendstream");
        c.dueText("Length that lies", stream(c, "/Length 7/A 1", "x", false), "<</Length 1/A 1>>\nstream\nx\nendstream");
        c.dueText("Length by reference", stream(c, "/Length 7 0 R/A 1", "x", false), "<</Length 1/A 1>>\nstream\nx\nendstream");
        c.dueText("Length below 0", stream(c, "/A 1/Length -5", "xy", true), "<</A 1 /Length 2>>\nstream\nxy\nendstream");
        c.dueText("Length of another kind", stream(c, "/Length[1 2]/A 1", "xy", true), "<</Length 2 /A 1>>\nstream\nxy\nendstream");
        c.dueText("the dictionary keeps its own", c.least(0), "<</Length[1 2]/A 1>>");
        c.dueText("no Length, nothing else", stream(c, "", "x", false), "<</Length 1>>\nstream\nx\nendstream");
        c.dueText("no Length", stream(c, "/A/B", "x", true), "<</A /B /Length 1>>\nstream\nx\nendstream");
        c.dueText("no Length behind a number", stream(c, "/A 1", "x", false), "<</A 1/Length 1>>\nstream\nx\nendstream");
    }

    private static void streamLengthOtherwise(Checks c) {
        c.dueText("Length of null", stream(c, "/Length null/A 1", "x", false), "<</A 1/Length 1>>\nstream\nx\nendstream");
        c.dueText("Length that went", stream(c, "/Length 1/A 1/Length null", "x", false), "<</A 1/Length 1>>\nstream\nx\nendstream");
        c.dueText("Length that went and came", stream(c, "/Length 1/A 1/Length null/Length 9/B 2", "x", false),
            "<</A 1/Length 1/B 2>>\nstream\nx\nendstream");
        c.dueText("Length of another", stream(c, "/A<</Length 9>>", "x", false), "<</A<</Length 9>>/Length 1>>\nstream\nx\nendstream");
        c.dueText("a name like it", stream(c, "/Lengthy 9/Lengt 8", "x", false), "<</Lengthy 9/Lengt 8/Length 1>>\nstream\nx\nendstream");
        c.dueText("a value named so", stream(c, "/A/Length", "x", false), "<</A/Length/Length 1>>\nstream\nx\nendstream");
        c.dueText("Length spelled otherwise", stream(c, "/#4cength 9", "x", false), "<</Length 1>>\nstream\nx\nendstream");
    }

    /** "byte 10, stream, byte 10, its bytes, byte 10, endstream". */
    private static void streamBytes(Checks c) {
        c.dueText("none", stream(c, "/Length 0", "", false), "<</Length 0>>\nstream\n\nendstream");
        c.dueText("any", stream(c, "/Length 6", "\0\r\u00ff()%", true), "<</Length 6>>\nstream\n\0\r\u00ff()%\nendstream");
        c.read("1 0 obj<<>>stream\n" + "x".repeat(400) + "endstream endobj");
        c.due("400 bytes", c.x.write(1, false, false), 15 + 8 + 400 + 10);
        String nine = stream(c, "/Length 9", "x".repeat(9), false);
        c.dueText("nine", nine, "<</Length 9>>\nstream\nxxxxxxxxx\nendstream");
        String ten = stream(c, "/Length 10", "x".repeat(10), false);
        c.dueText("ten", ten, "<</Length 10>>\nstream\nxxxxxxxxxx\nendstream");
    }

    /** Promise 12: "each that has a value as number, generation, obj, byte 10, its value, byte 10, endobj, byte 10". */
    private static void rows(Checks c) {
        c.read("0 0 obj null endobj 999999999 999999999 obj/a endobj 7 7 obj } endobj 0012 003 obj[1(a)]endobj");
        String least = "0 0 obj\nnull\nendobj\n999999999 999999999 obj\n/a\nendobj\n12 3 obj\n[1(a)]\nendobj\n";
        c.due("bytes", c.x.write(0, false, true), least.length());
        c.dueText("least", c.out(), least);
        c.x.write(0, true, true);
        c.dueText("readable", c.out(), "0 0 obj\nnull\nendobj\n999999999 999999999 obj\n/a\nendobj\n12 3 obj\n[1 (a)]\nendobj\n");
        c.read("1 0 obj/a endobj 2 0 obj 5 endobj");
        c.x.write(0, false, true);
        c.dueText("no blank behind byte 10", c.out(), "1 0 obj\n/a\nendobj\n2 0 obj\n5\nendobj\n");
        int[] any = {-1, 0, 2, 300, Integer.MAX_VALUE, Integer.MIN_VALUE};
        for (int v : any) {
            c.due("v does not matter: " + v, c.x.write(v, true, true), 18 + 17);
        }
        c.read("1 0 obj<<>>stream\nx\nendstream endobj");
        c.x.write(0, true, true);
        c.dueText("a stream", c.out(), "1 0 obj\n<</Length 1>>\nstream\nx\nendstream\nendobj\n");
        c.read("1 0 obj[[[[[[[[1]]]]]]]]endobj 2 0 obj<</a<</a<</a<</a<</a<</a<</a<</a 1>>>>>>>>>>>>>>>>endobj");
        c.x.write(0, false, true);
        c.dueText("eight deep", c.out(), "1 0 obj\n[[[[[[[[1]]]]]]]]\nendobj\n2 0 obj\n" + "<</a".repeat(8) + " 1" + ">>".repeat(8) + "\nendobj\n");
    }

    private static void rowsOfNone(Checks c) {
        String[] none = {"", "x", "1 0 obj } endobj", "1 0 obj"};
        for (String text : none) {
            c.read("1 0 obj /abc endobj");
            c.x.write(0, false, false);
            c.readAgain(text);
            c.due("OUT stays: [" + text + "]", c.x.told(1), 4);
            c.due("a row without values: [" + text + "]", c.x.write(0, false, true), 0);
            c.due("OUT is empty: [" + text + "]", c.x.told(1), 0);
            c.due("OUT has no byte: [" + text + "]", c.x.out(0), -1);
        }
    }

    /** Promise 12: "NONE when they would be more than 4000". */
    private static void out4000(Checks c) {
        // 33 names of 40 bytes, each byte written as three: 33 * 121 = 3993.
        String names = ("/" + "#".repeat(40)).repeat(33);
        c.read("1 0 obj[" + names + "(ab)]endobj");
        c.due("3999 bytes", c.x.write(0, false, false), 3999);
        c.due("the last byte", c.x.out(3998), ']');
        c.due("no byte behind it", c.x.out(3999), -1);
        c.read("1 0 obj[" + names + "(abc)]endobj");
        c.due("4000 bytes", c.x.write(0, false, false), 4000);
        c.due("told(1)", c.x.told(1), 4000);
        c.due("the first byte", c.x.out(0), '[');
        c.due("the last byte", c.x.out(3999), ']');
        c.due("no byte behind it", c.x.out(4000), -1);
        c.due("readable has more", c.x.write(0, true, false), -1);
        c.read("1 0 obj[" + names + "(abcd)]endobj");
        c.due("4001 bytes", c.x.write(0, false, false), -1);
        c.due("nothing is written", c.x.told(1), 0);
        c.due("a part of it", c.x.write(1, false, false), 121);
        // READABLE, with 32 blanks: 32 * 121 + 1 + 93 + 32 + 2 = 4000.
        String fewer = ("/" + "#".repeat(40)).repeat(32) + "/" + "#".repeat(31);
        c.read("1 0 obj[" + fewer + "]endobj");
        c.due("4000 bytes, readable", c.x.write(0, true, false), 4000);
        c.due("4000 bytes, readable: the last", c.x.out(3999), ']');
        c.read("1 0 obj[" + fewer + "x]endobj");
        c.due("4001 bytes, readable", c.x.write(0, true, false), -1);
        c.due("3969 bytes, least", c.x.write(0, false, false), 3969);
    }

    private static void row4000(Checks c) {
        // The head and the end of an object have 8 and 8 bytes: 16 + 2 + 32 * 121 + 108 + 2 = 4000.
        String names = ("/" + "#".repeat(40)).repeat(32) + "/" + "#".repeat(35) + "xx";
        c.read("1 0 obj[" + names + "()]endobj");
        c.due("a row of 4000", c.x.write(0, false, true), 4000);
        c.due("the last byte", c.x.out(3999), '\n');
        c.read("1 0 obj[" + names + "(a)]endobj");
        c.due("a row of 4001", c.x.write(0, false, true), -1);
        c.due("its value alone", c.x.write(0, false, false), 3985);
        c.read("1 0 obj[" + names + "()]endobj 2 0 obj } endobj");
        c.due("one without a value", c.x.write(0, false, true), 4000);
        c.read("1 0 obj[" + names + "()]endobj 2 0 obj 5 endobj");
        c.due("one with a value", c.x.write(0, false, true), -1);
    }

    /** Promise 14: "NONE when they are more than 1600". */
    private static void take1600(Checks c) {
        String names = ("/" + "#".repeat(40)).repeat(13) + "/";
        c.read("1 0 obj[" + names + "(" + "x".repeat(22) + ")]endobj");
        c.due("1600 bytes", c.x.write(0, false, false), 1600);
        c.due("take()", c.x.take(), 1600);
        c.due("told(0)", c.x.told(0), 1600);
        c.due("OUT stays", c.x.told(1), 1600);
        c.due("not one more", c.x.feed(1, ' '), -1);
        c.due("read()", c.x.read(), 0);
        c.due("all are stray", c.x.told(4), 1600);
        c.read("1 0 obj[" + names + "(" + "x".repeat(23) + ")]endobj");
        c.due("1601 bytes", c.x.write(0, false, false), 1601);
        int size = c.x.told(0);
        c.due("take() of 1601", c.x.take(), -1);
        c.due("the tape stays", c.x.told(0), size);
        c.due("it is read as before", c.x.read(), 1);
    }

    private static void takeOfNothing(Checks c) {
        c.read("1 0 obj } endobj");
        c.due("take() of an empty OUT", c.x.take(), 0);
        c.due("the tape is empty", c.x.told(0), 0);
        c.due("what was read stays", c.x.told(2), 1);
        c.due("read()", c.x.read(), 0);
        c.read("1 0 obj [5] endobj z");
        c.x.write(1, false, false);
        c.due("take() of one", c.x.take(), 1);
        c.due("take() again", c.x.take(), 1);
        c.due("a longer tape is gone", c.x.told(0), 1);
        c.due("feed behind it", c.feed(" 0 obj 7 endobj"), 16);
        c.due("read()", c.x.read(), 1);
        c.due("number", c.x.object(0, 0), 5);
        c.dueText("OUT stays", c.out(), "5");
    }
}
