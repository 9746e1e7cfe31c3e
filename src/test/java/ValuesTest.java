/** Promises 7 (value), 8 (number), 9 (byteOf), 10 (child) and 11 (lookup): what each kind of value is. */
public final class ValuesTest {
    public static void main(String[] args) {
        Checks c = new Checks();
        words(c);
        numbers(c);
        references(c);
        names(c);
        strings(c);
        figureStrings(c);
        arrays(c);
        dictionaries(c);
        doubles(c);
        lookups(c);
        wrongOnes(c);
        c.end();
    }

    private static void words(Checks c) {
        c.dueNumber("null", SyntaxRows.NULL, 0, 0);
        c.dueNumber("true", SyntaxRows.TRUTH, 0, 1);
        c.dueNumber("false", SyntaxRows.TRUTH, 0, 0);
    }

    private static void numbers(Checks c) {
        c.dueNumber("0", SyntaxRows.WHOLE, 0, 0);
        c.dueNumber("-0", SyntaxRows.WHOLE, 0, 0);
        c.dueNumber("+17", SyntaxRows.WHOLE, 0, 17);
        c.dueNumber("-17", SyntaxRows.WHOLE, 0, -17);
        c.dueNumber("--17", SyntaxRows.WHOLE, SyntaxRows.ODD, -17);
        c.dueNumber("+-17", SyntaxRows.WHOLE, SyntaxRows.ODD, 17);
        c.dueNumber("-+-17", SyntaxRows.WHOLE, SyntaxRows.ODD, -17);
        c.dueNumber("999999999", SyntaxRows.WHOLE, 0, 999999999);
        c.dueNumber("-000000001", SyntaxRows.WHOLE, 0, -1);
        c.dueNumber("5.", SyntaxRows.REAL, 0, 5000000);
        c.dueNumber(".5", SyntaxRows.REAL, 0, 500000);
        c.dueNumber("-.000001", SyntaxRows.REAL, 0, -1);
        c.dueNumber("--.25", SyntaxRows.REAL, SyntaxRows.ODD, -250000);
        c.dueNumber("999999999.999999", SyntaxRows.REAL, 0, 999999999999999L);
        c.dueNumber("-0.0", SyntaxRows.REAL, 0, 0);
    }

    private static void references(Checks c) {
        c.dueNumber("7 0 R", SyntaxRows.REFERENCE, 0, 7);
        c.dueNumber("7%x\n00%y\rR", SyntaxRows.REFERENCE, 0, 7);
        c.dueNumber("999999999 999999999 R", SyntaxRows.REFERENCE, 0, 999999999999999999L);
        c.dueNumber("12 3 R", SyntaxRows.REFERENCE, 0, 3000000012L);
        int v = c.dueValue("[1 2 3 R 4 5]", SyntaxRows.ARRAY, 0);
        c.due("1, 2 3 R, 4, 5", c.x.value(v, 1), 4);
        c.due("2 3 R", c.x.number(2), 3000000002L);
        c.due("all values", c.x.told(3), 5);
        c.dueFault("1 0 obj [+1 2 R] endobj", 2, 14, 0);
        c.dueFault("1 0 obj [1 -2 R] endobj", 2, 14, 0);
        c.dueFault("1 0 obj [1 2. R] endobj", 2, 14, 0);
        c.dueFault("1 0 obj [1 2 Rx] endobj", 2, 13, 0);
        c.dueFault("1 0 obj [1 1234567890 R] endobj", 4, 11, 0);
        c.dueFault("1 0 obj 1 2 endobj", 2, 10, 0);
        c.dueFault("1 0 obj 1 2 R", 1, 13, 0);
    }

    private static void names(Checks c) {
        c.dueBytes("/", SyntaxRows.NAME, 0, "");
        c.dueBytes("/Ab.-+*", SyntaxRows.NAME, 0, "Ab.-+*");
        c.dueBytes("/A#20b", SyntaxRows.NAME, 0, "A b");
        c.dueBytes("/#fF#41#", SyntaxRows.NAME, 0, "\u00ffA#");
        c.dueBytes("/#zz#4z#4", SyntaxRows.NAME, 0, "#zz#4z#4");
        c.dueBytes("/##41#0#", SyntaxRows.NAME, 0, "#A#0#");
        c.dueBytes("/#23#234", SyntaxRows.NAME, 0, "##4");
        c.dueBytes("/" + "x".repeat(40), SyntaxRows.NAME, 0, "x".repeat(40));
        c.dueBytes("/" + "#61".repeat(40), SyntaxRows.NAME, 0, "a".repeat(40));
        int v = c.dueValue("[//a/b(c)/]", SyntaxRows.ARRAY, 0);
        c.due("names without white", c.x.value(v, 1), 5);
    }

    private static void strings(Checks c) {
        c.dueBytes("()", SyntaxRows.STRING, 0, "");
        c.dueBytes("(a(b)(())c)", SyntaxRows.STRING, 0, "a(b)(())c");
        c.dueBytes("(\\n\\r\\t\\b\\f)", SyntaxRows.STRING, 0, "\n\r\t\b\f");
        c.dueBytes("(\\\\\\(\\)\\)\\x\\8\\%)", SyntaxRows.STRING, 0, "\\())x8%");
        c.dueBytes("(\\1\\12\\101\\1018\\18\\400\\777)", SyntaxRows.STRING, 0, "\1\12AA8\0018\0\u00ff");
        c.dueBytes("(\\1011\\0000)", SyntaxRows.STRING, 0, "A1\0000");
        c.dueBytes("(a\\\nb\\\rc\\\r\nd\\\n\re)", SyntaxRows.STRING, 0, "abcd\ne");
        c.dueBytes("(a\nb\rc\r\nd\n\re)", SyntaxRows.STRING, 0, "a\nb\nc\nd\n\ne");
        c.dueBytes("(%x\0\u00ff\u007f)", SyntaxRows.STRING, 0, "%x\0\u00ff\u007f");
        c.dueBytes("(" + "y".repeat(200) + ")", SyntaxRows.STRING, 0, "y".repeat(200));
        c.dueBytes("(" + "y".repeat(200) + "\\\n)", SyntaxRows.STRING, 0, "y".repeat(200));
        c.dueBytes("(" + "\\101".repeat(200) + ")", SyntaxRows.STRING, 0, "A".repeat(200));
    }

    private static void figureStrings(Checks c) {
        c.dueBytes("<>", SyntaxRows.STRING, 0, "");
        c.dueBytes("<4 1\0\t\n\f\r4b4B>", SyntaxRows.STRING, 0, "AKK");
        c.dueBytes("<fFaA00>", SyntaxRows.STRING, 0, "\u00ff\u00aa\0");
        c.dueBytes("<414>", SyntaxRows.STRING, SyntaxRows.ODD, "A@");
        c.dueBytes("< 5 >", SyntaxRows.STRING, SyntaxRows.ODD, "P");
        c.dueBytes("<" + "41".repeat(200) + ">", SyntaxRows.STRING, 0, "A".repeat(200));
        c.dueBytes("<" + "41".repeat(199) + "4>", SyntaxRows.STRING, SyntaxRows.ODD, "A".repeat(199) + "@");
    }

    private static void arrays(Checks c) {
        int v = c.dueValue("[]", SyntaxRows.ARRAY, 0);
        c.due("none in []", c.x.value(v, 1), 0);
        c.due("child of []", c.x.child(v, 0), -1);
        v = c.dueValue("[1[2 3]<4>null<</a 5>>6]", SyntaxRows.ARRAY, SyntaxRows.ODD);
        c.due("[..] values", c.x.value(v, 1), 6);
        c.due("[..] bytes", c.x.value(v, 2), 0);
        c.due("[..] number", c.x.number(v), 0);
        c.due("[..] byteOf", c.x.byteOf(v, 0), -1);
        int[] children = {1, 2, 5, 6, 7, 10};
        for (int k = 0; k < children.length; k++) {
            c.due("[..] child " + k, c.x.child(v, k), children[k]);
        }
        int[] none = {-1, 6, Integer.MAX_VALUE, Integer.MIN_VALUE};
        for (int k : none) {
            c.due("[..] child " + k, c.x.child(v, k), -1);
            c.due("<4> byte " + k, c.x.byteOf(5, k), -1);
        }
        c.due("inner child", c.x.child(2, 1), 4);
        v = c.dueValue("[[[[[[[[1]]]]]]]]", SyntaxRows.ARRAY, 0);
        c.due("eight deep", c.x.told(3), 9);
        v = c.dueValue("<</a[<</a[<</a[<</a[]>>]>>]>>]>>", SyntaxRows.DICTIONARY, 0);
        c.due("eight deep by turns", c.x.told(3), 12);
    }

    private static void dueChildren(Checks c, String text, int noted, int... children) {
        int v = c.dueValue(text, SyntaxRows.DICTIONARY, noted);
        c.due(text + " values", c.x.value(v, 1), children.length);
        for (int k = 0; k < children.length; k++) {
            c.due(text + " child " + k, c.x.child(v, k), children[k]);
        }
        c.due(text + " child behind", c.x.child(v, children.length), -1);
        c.due(text + " number", c.x.number(v), 0);
        c.due(text + " bytes", c.x.value(v, 2), 0);
        c.due(text + " byteOf", c.x.byteOf(v, 0), -1);
    }

    private static void dictionaries(Checks c) {
        dueChildren(c, "<<>>", 0);
        dueChildren(c, "<< /A 1 /B[2]/C/D >>", 0, 1, 2, 3, 4, 6, 7);
        dueChildren(c, "<</A null>>", 0);
        c.due("values of what is not there", c.x.told(3), 3);
        dueChildren(c, "<</A null/B 1/A 2>>", 0, 3, 4, 5, 6);
        dueChildren(c, "<</A null/A null>>", 0);
        dueChildren(c, "<</A[null]/ 1 0 R>>", 0, 1, 2, 4, 5);
    }

    private static void doubles(Checks c) {
        dueChildren(c, "<</A 1/B 2/A 3>>", SyntaxRows.DOUBLE, 1, 6, 3, 4);
        dueChildren(c, "<</A 1/B 2/#41 3>>", SyntaxRows.DOUBLE, 1, 6, 3, 4);
        dueChildren(c, "<</A 1/B 2/A null>>", SyntaxRows.DOUBLE, 3, 4);
        dueChildren(c, "<</A 1/B 2/B null>>", SyntaxRows.DOUBLE, 1, 2);
        dueChildren(c, "<</A 1/B 2/B null/C 3>>", SyntaxRows.DOUBLE, 1, 2, 7, 8);
        dueChildren(c, "<</A 1/B 2/C 3/B null/D 4>>", SyntaxRows.DOUBLE, 1, 2, 5, 6, 9, 10);
        dueChildren(c, "<</A 1/A null/A 3>>", SyntaxRows.DOUBLE, 5, 6);
        dueChildren(c, "<</A 1/B 2/A null/A 3>>", SyntaxRows.DOUBLE, 3, 4, 7, 8);
        dueChildren(c, "<</A 1/A 2/A 3>>", SyntaxRows.DOUBLE, 1, 6);
        dueChildren(c, "<</A 1/a 2/AA 3>>", 0, 1, 2, 3, 4, 5, 6);
        int v = c.dueValue("[<</A 1>><</A 2>>--3]", SyntaxRows.ARRAY, SyntaxRows.ODD);
        c.due("in two dictionaries", c.x.value(v, 1), 3);
        c.dueValue("[<</A 1/A 2>>--3]", SyntaxRows.ARRAY, SyntaxRows.ODD | SyntaxRows.DOUBLE);
    }

    private static void lookups(Checks c) {
        c.read("1 0 obj<</A 1/B null/C[/A/#43]/A(x)>>endobj 2 0 obj<</A 7/Length 0>>stream\nendstream endobj 3 0 obj[/A/Z(A)]endobj");
        // Values: 0 <<, 1 /A, 2 1, 3 /B, 4 null, 5 /C, 6 [, 7 /A, 8 /C, 9 /A, 10 (x);
        // 11 <<, 12 /A, 13 7, 14 /Length, 15 0, 16 the stream; 17 [, 18 /A, 19 /Z, 20 (A).
        c.due("all values", c.x.told(3), 21);
        c.due("by its own key", c.x.lookup(0, 1), 10);
        c.due("by a name elsewhere", c.x.lookup(0, 7), 10);
        c.due("by a name spelled otherwise", c.x.lookup(0, 8), 6);
        c.due("what is null", c.x.lookup(0, 3), -1);
        c.due("what is not there", c.x.lookup(0, 19), -1);
        c.due("in another one", c.x.lookup(11, 18), 13);
        c.due("in a stream's", c.x.lookup(16, 18), 13);
        c.due("not in a stream's", c.x.lookup(16, 19), -1);
        c.due("by a string", c.x.lookup(0, 20), -1);
        c.due("by a number", c.x.lookup(0, 2), -1);
        c.due("in an array", c.x.lookup(17, 18), -1);
        c.due("in a name", c.x.lookup(1, 1), -1);
    }

    private static void wrongOnes(Checks c) {
        c.read("1 0 obj<</A 1>>endobj");
        int[] none = {-1, 3, 300, Integer.MAX_VALUE, Integer.MIN_VALUE};
        for (int v : none) {
            c.dueIndex("value(" + v + ", 0)", () -> c.x.value(v, 0));
            c.dueIndex("number(" + v + ")", () -> c.x.number(v));
            c.dueIndex("byteOf(" + v + ", 0)", () -> c.x.byteOf(v, 0));
            c.dueIndex("child(" + v + ", 0)", () -> c.x.child(v, 0));
            c.dueIndex("lookup(" + v + ", 1)", () -> c.x.lookup(v, 1));
            c.dueIndex("lookup(0, " + v + ")", () -> c.x.lookup(0, v));
            c.dueIndex("write(" + v + ")", () -> c.x.write(v, true, false));
        }
        int[] noWhat = {-1, 3, Integer.MAX_VALUE, Integer.MIN_VALUE};
        for (int what : noWhat) {
            c.dueIndex("value(0, " + what + ")", () -> c.x.value(0, what));
        }
    }
}
