/** Promises 12 (write), 13 (out) and 14 (take). */
public final class WriteTest {
    public static void main(String[] args) {
        Checks c = new Checks();
        single(c);
        names(c);
        strings(c);
        gaps(c);
        streams(c);
        rows(c);
        tooLong(c);
        outs(c);
        taking(c);
        c.end();
    }

    private static void due(Checks c, String value, String least, String readable) {
        c.read("1 0 obj " + value + " endobj");
        int v = c.x.object(0, 2);
        c.due(value + " least, bytes", c.x.write(v, false, false), least.length());
        c.dueText(value + " least", c.out(), least);
        c.due(value + " readable, bytes", c.x.write(v, true, false), readable.length());
        c.dueText(value + " readable", c.out(), readable);
    }

    private static void due(Checks c, String value, String both) {
        due(c, value, both, both);
    }

    private static void single(Checks c) {
        due(c, "null", "null");
        due(c, "true", "true");
        due(c, "false", "false");
        due(c, "+007", "7");
        due(c, "-0", "0");
        due(c, "--100", "-100");
        due(c, "-999999999", "-999999999");
        due(c, "0.", ".0");
        due(c, "-.000", ".0");
        due(c, "5.", "5.");
        due(c, "1.0", "1.");
        due(c, "0.999999", ".999999");
        due(c, "-5.10", "-5.1");
        due(c, "-0.25", "-.25");
        due(c, "00.000001", ".000001");
        due(c, "10.050", "10.05");
        due(c, "999999999.999999", "999999999.999999");
        due(c, "007 00 R", "7 0 R");
        due(c, "999999999 123456789 R", "999999999 123456789 R");
        due(c, "[]", "[]");
        due(c, "<<>>", "<<>>");
    }

    private static void names(Checks c) {
        due(c, "/", "/");
        due(c, "/a+b", "/a+b");
        due(c, "/#23#zz", "/#23#23zz");
        due(c, "/#20#7f#7e#21#ff#0a", "/#20#7F~!#FF#0A");
        due(c, "/#28#29#3c#3e#5b#5d#7b#7d#2f#25", "/#28#29#3C#3E#5B#5D#7B#7D#2F#25");
    }

    private static void strings(Checks c) {
        due(c, "()", "()");
        due(c, "<>", "()");
        due(c, "<414>", "(A@)");
        due(c, "(a(b)\\\\\\)c)", "(a\\(b\\)\\\\\\)c)");
        due(c, "(\\r\\n\r\\t\\0)", "(\\r\n\n\t\0)");
        due(c, "<0d0d0d>", "(\\r\\r\\r)");
        due(c, "<28292829>", "(\\(\\)\\(\\))");
        due(c, "<00ff80>", "(\0\u00ff\u0080)");
    }

    private static void gaps(Checks c) {
        due(c, "[ 1 -2 3. true null 4 0 R 5 ]", "[1 -2 3. true null 4 0 R 5]");
        due(c, "[1/a/b 2(c)3(d)/e<f0>]", "[1/a/b 2(c)3(d)/e(\u00f0)]", "[1 /a /b 2 (c) 3 (d) /e (\u00f0)]");
        due(c, "[[1][2]3[[]]4<<>>5]", "[[1][2]3[[]]4<<>>5]", "[[1] [2] 3 [[]] 4 <<>> 5]");
        due(c, "<</a 1/b/c/d(e)/f[1]/ 1 0 R/g<</h true>>>>",
            "<</a 1/b/c/d(e)/f[1]/ 1 0 R/g<</h true>>>>",
            "<</a 1 /b /c /d (e) /f [1] / 1 0 R /g <</h true>>>>");
        due(c, "<</a 1/b null/c 2/a 3/c null>>", "<</a 3>>");
        due(c, "[[[[[[[[1]]]]]]]]", "[[[[[[[[1]]]]]]]]");
        due(c, "<</a[<</a[<</a[<</a[1]>>]>>]>>]>>", "<</a[<</a[<</a[<</a[1]>>]>>]>>]>>", "<</a [<</a [<</a [<</a [1]>>]>>]>>]>>");
        due(c, "[[[[[[[<</a/b>>]]]]]]]", "[[[[[[[<</a/b>>]]]]]]]", "[[[[[[[<</a /b>>]]]]]]]");
        due(c, "[<</a 1>>/b<</c 1>>2]", "[<</a 1>>/b<</c 1>>2]", "[<</a 1>> /b <</c 1>> 2]");
    }

    private static void streams(Checks c) {
        c.read("1 0 obj<</Length 2 0 R/A 1>>stream\r\nab\rc\r\nendstream endobj");
        int v = c.x.object(0, 2);
        c.dueText("Length in its place", c.least(v), "<</Length 4/A 1>>\nstream\nab\rc\nendstream");
        c.dueText("Length in its place, readable", c.readable(v), "<</Length 4 /A 1>>\nstream\nab\rc\nendstream");
        c.dueText("the dictionary alone", c.least(0), "<</Length 2 0 R/A 1>>");
        c.read("1 0 obj<</A/B>>stream\nendstream endobj");
        v = c.x.object(0, 2);
        c.dueText("Length comes last", c.least(v), "<</A/B/Length 0>>\nstream\n\nendstream");
        c.dueText("Length comes last, readable", c.readable(v), "<</A /B /Length 0>>\nstream\n\nendstream");
        c.dueText("the dictionary has none", c.least(0), "<</A/B>>");
        c.read("1 0 obj<</Length null/A<</Length 7>>>>stream\nx\nendstream endobj");
        v = c.x.object(0, 2);
        c.dueText("Length of the stream's own", c.least(v), "<</A<</Length 7>>/Length 1>>\nstream\nx\nendstream");
        c.read("1 0 obj<<>>stream\nx\nendstream endobj");
        c.dueText("Length alone", c.least(c.x.object(0, 2)), "<</Length 1>>\nstream\nx\nendstream");
    }

    private static void rows(Checks c) {
        c.read("q 1 0 obj [1/a] endobj 2 3 obj } endobj 04 5 obj<<>>stream\nx\nendstream endobj 6 0 obj null endobj");
        String least = "1 0 obj\n[1/a]\nendobj\n4 5 obj\n<</Length 1>>\nstream\nx\nendstream\nendobj\n6 0 obj\nnull\nendobj\n";
        String readable = "1 0 obj\n[1 /a]\nendobj\n4 5 obj\n<</Length 1>>\nstream\nx\nendstream\nendobj\n6 0 obj\nnull\nendobj\n";
        c.due("the whole row, bytes", c.x.write(0, false, true), least.length());
        c.dueText("the whole row", c.out(), least);
        int[] any = {-1, 300, Integer.MAX_VALUE, Integer.MIN_VALUE};
        for (int v : any) {
            c.due("v does not matter", c.x.write(v, true, true), readable.length());
            c.dueText("v does not matter", c.out(), readable);
        }
        c.read("1 0 obj } endobj");
        c.due("none has a value", c.x.write(0, false, true), 0);
        c.due("OUT is empty", c.x.told(1), 0);
        c.due("OUT has no byte", c.x.out(0), -1);
    }

    private static void tooLong(Checks c) {
        // 33 names of 40 bytes, each byte written as three: 33 * 121 + 2 = 3995.
        String names = ("/" + "#".repeat(40)).repeat(33);
        c.read("1 0 obj[" + names + "(abc)]endobj");
        c.due("4000 bytes", c.x.write(0, false, false), 4000);
        c.due("the last one", c.x.out(3999), ']');
        c.due("none behind it", c.x.out(4000), -1);
        c.due("4033 bytes", c.x.write(0, true, false), -1);
        c.due("OUT stays", c.x.told(1), 4000);
        c.due("OUT's bytes stay", c.x.out(3998), ')');
        c.due("the row is too long", c.x.write(0, false, true), -1);
        c.readAgain("1 0 obj[" + names + "(abcd)]endobj");
        c.due("4001 bytes", c.x.write(0, false, false), -1);
        c.due("OUT stays behind it", c.x.told(1), 4000);
        c.due("a short one", c.x.write(1, false, false), 121);
        c.due("then OUT is short", c.x.told(1), 121);
        c.due("no byte behind it", c.x.out(121), -1);
    }

    private static void outs(Checks c) {
        c.read("1 0 obj(\\377a)endobj");
        c.x.write(0, false, false);
        int[] due = {'(', 255, 'a', ')', -1};
        for (int i = 0; i < due.length; i++) {
            c.due("out(" + i + ")", c.x.out(i), due[i]);
        }
        int[] none = {-1, 4000, Integer.MAX_VALUE, Integer.MIN_VALUE};
        for (int i : none) {
            c.due("out(" + i + ")", c.x.out(i), -1);
        }
        c.dueIndex("write(1)", () -> c.x.write(1, false, false));
        c.due("OUT stays behind a throw", c.x.told(1), 4);
    }

    private static void taking(Checks c) {
        c.read("1 0 obj[ 1   2 ]endobj x");
        c.x.write(0, true, true);
        c.due("take()", c.x.take(), 21);
        c.due("the tape", c.x.told(0), 21);
        c.due("OUT stays", c.x.told(1), 21);
        c.due("what was read stays", c.x.told(4), 1);
        c.due("read()", c.x.read(), 1);
        c.due("no stray", c.x.told(4), 0);
        c.due("it ends", c.x.object(0, 7), 20);
        c.due("feed behind it", c.x.feed(1, 'z'), 22);
        c.read("1 0 obj[" + ("/" + "#".repeat(38)).repeat(13) + "/" + "#".repeat(36) + "(abc)]endobj");
        c.due("1600 bytes", c.x.write(0, false, false), 13 * 115 + 109 + 7);
        c.x.wipe();
        c.due("take() of 1611", c.x.take(), -1);
        c.due("the tape stays", c.x.told(0), 0);
        c.read("1 0 obj[" + ("/" + "#".repeat(38)).repeat(13) + "/" + "#".repeat(32) + "(a)]endobj");
        c.due("1597 bytes", c.x.write(0, false, false), 1597);
        c.due("take() of 1597", c.x.take(), 1597);
        c.read("1 0 obj[" + ("/" + "#".repeat(38)).repeat(13) + "/" + "#".repeat(32) + "(abcd)]endobj");
        c.due("1600 bytes", c.x.write(0, false, false), 1600);
        c.due("take() of 1600", c.x.take(), 1600);
        c.read("1 0 obj[" + ("/" + "#".repeat(38)).repeat(13) + "/" + "#".repeat(32) + "(abcde)]endobj");
        c.due("1601 bytes", c.x.write(0, false, false), 1601);
        c.due("take() of 1601", c.x.take(), -1);
    }
}
