/** Terms: arrays and dictionaries, what is within them, and how values are numbered. */
public final class NestEdgesTest {
    private static final int ARRAY = SyntaxRows.ARRAY;
    private static final int DICTIONARY = SyntaxRows.DICTIONARY;
    private static final int DOUBLE = SyntaxRows.DOUBLE;

    public static void main(String[] args) {
        Checks c = new Checks();
        empty(c);
        withinEight(c);
        withinEightOthersStand(c);
        deepSideBySide(c);
        nullIsNotThere(c);
        doubled(c);
        doubledByNull(c);
        doubledElsewhere(c);
        doubledBeforeAFault(c);
        keys(c);
        unclosed(c);
        numbering(c);
        c.end();
    }

    private static void empty(Checks c) {
        String[] texts = {"[]", "[ ]", "[%x\n]", "<<>>", "<< >>", "<<%x\n>>"};
        for (String text : texts) {
            int v = c.dueValue(text, text.startsWith("[") ? ARRAY : DICTIONARY, 0);
            c.due(text + " values", c.x.value(v, 1), 0);
            c.due(text + " bytes", c.x.value(v, 2), 0);
            c.due(text + " child", c.x.child(v, 0), -1);
            c.due(text + " byteOf", c.x.byteOf(v, 0), -1);
            c.due(text + " lookup", c.x.lookup(v, v), -1);
            c.due(text + " all", c.x.told(3), 1);
        }
    }

    /** "5 an array or dictionary within eight others: at its first byte." */
    private static void withinEight(Checks c) {
        String[] opening = {"[", "<</a", "[<</a", "<</a["};
        String[] closing = {"]", ">>", ">>]", "]>>"};
        for (int i = 0; i < opening.length; i++) {
            int times = i < 2 ? 8 : 4;
            int kind = opening[i].startsWith("[") ? ARRAY : DICTIONARY;
            String open = opening[i].repeat(times);
            String close = closing[i].repeat(times);
            c.dueValue(open + " 1" + close, kind, 0);
            c.dueFaultIn(open + "[]" + close, 5, open.length(), 0);
            c.dueFaultIn(open + " [1]" + close, 5, open.length() + 1, 0);
            c.dueFaultIn(open + "<<>>" + close, 5, open.length(), 0);
            c.dueFaultIn(open + "%[\n<</a 1>>" + close, 5, open.length() + 3, 0);
            c.dueFault("1 0 obj " + open + "[", 5, 8 + open.length(), 0);
            c.dueFault("1 0 obj " + open + "<<", 5, 8 + open.length(), 0);
            c.dueEnd("1 0 obj " + open, 0);
        }
        int v = c.dueValue("[[[[[[[[]]]]]]]]", ARRAY, 0);
        c.due("the eighth", c.x.value(7, 1), 0);
        c.due("within seven", c.x.child(v, 0), 1);
    }

    private static void withinEightOthersStand(Checks c) {
        c.dueValue("[[[[[[[[<78>(x)/x 1 0 R null]]]]]]]]", ARRAY, 0);
        c.due("values within eight", c.x.value(7, 1), 5);
        c.dueFaultIn("[[[[[[[[ < <>]]]]]]]]", 2, 11, 0);
        c.dueEnd("1 0 obj [[[[[[[[<", 0);
    }

    /** The eighth one closed makes room for the next. */
    private static void deepSideBySide(Checks c) {
        c.dueValue("[[[[[[[[][]<<>><</a 1>>]]]]][[[[[[]]]]]]]]", ARRAY, 0);
        c.dueFaultIn("[[[[[[[[][[]]]]]]]]]", 5, 10, 0);
        c.dueFaultIn("[[[[[[[]]]]]][[[[[[[[]]]]]]]]]", 5, 20, 0);
    }

    private static void dueChildren(Checks c, String text, int noted, int... children) {
        int v = c.dueValue(text, DICTIONARY, noted);
        c.due(text + " values", c.x.value(v, 1), children.length);
        for (int k = 0; k < children.length; k++) {
            c.due(text + " child " + k, c.x.child(v, k), children[k]);
        }
        for (int k = 0; k < children.length; k += 2) {
            c.due(text + " lookup " + k, c.x.lookup(v, children[k]), children[k + 1]);
        }
        c.due(text + " child behind", c.x.child(v, children.length), -1);
    }

    /** "a key whose value is null is not there". */
    private static void nullIsNotThere(Checks c) {
        dueChildren(c, "<</A null>>", 0);
        c.due("lookup of it", c.x.lookup(0, 1), -1);
        c.due("its values count", c.x.told(3), 3);
        c.due("it is a name", c.x.value(1, 0), SyntaxRows.NAME);
        c.due("and null", c.x.value(2, 0), SyntaxRows.NULL);
        dueChildren(c, "<</A null/B 1>>", 0, 3, 4);
        dueChildren(c, "<</B 1/A null>>", 0, 1, 2);
        dueChildren(c, "<</A null/A 1>>", 0, 3, 4);
        dueChildren(c, "<</A null/A null/A null>>", 0);
        dueChildren(c, "<</A[null]>>", 0, 1, 2);
        dueChildren(c, "<</A false/B 0/C()/D[]/E<<>>>>", 0, 1, 2, 3, 4, 5, 6, 7, 8, 9, 10);
    }

    /** "one that was there before gets the later value in its place (DOUBLE [..])". */
    private static void doubled(Checks c) {
        dueChildren(c, "<</A 1/B 2>>", 0, 1, 2, 3, 4);
        dueChildren(c, "<</A 1/A 2>>", DOUBLE, 1, 4);
        dueChildren(c, "<</A 1/B 2/C 3/A 4>>", DOUBLE, 1, 8, 3, 4, 5, 6);
        dueChildren(c, "<</A 1/B 2/C 3/B 4>>", DOUBLE, 1, 2, 3, 8, 5, 6);
        dueChildren(c, "<</A 1/B 2/C 3/C 4>>", DOUBLE, 1, 2, 3, 4, 5, 8);
        dueChildren(c, "<</A 1/A 2/A 3/A 4>>", DOUBLE, 1, 8);
        dueChildren(c, "<</A 1/A[2]/B<</A 3>>>>", DOUBLE, 1, 4, 6, 7);
    }

    /** "also where that is null: it goes". */
    private static void doubledByNull(Checks c) {
        dueChildren(c, "<</A 1/A null>>", DOUBLE);
        c.due("lookup of what went", c.x.lookup(0, 1), -1);
        c.due("its values count", c.x.told(3), 5);
        dueChildren(c, "<</A 1/B 2/C 3/A null>>", DOUBLE, 3, 4, 5, 6);
        dueChildren(c, "<</A 1/B 2/C 3/B null>>", DOUBLE, 1, 2, 5, 6);
        dueChildren(c, "<</A 1/B 2/C 3/C null>>", DOUBLE, 1, 2, 3, 4);
        dueChildren(c, "<</A 1/A null/A null>>", DOUBLE);
        dueChildren(c, "<</A 1/B 2/A null/A 3>>", DOUBLE, 3, 4, 7, 8);
        dueChildren(c, "<</A 1/A null/B 2/B null/C 3>>", DOUBLE, 9, 10);
        dueChildren(c, "<</A 1/B 2/A null/B null/B 5/A 6>>", DOUBLE, 9, 10, 11, 12);
    }

    /** The same name is one of the same bytes, in the same dictionary. */
    private static void doubledElsewhere(Checks c) {
        dueChildren(c, "<</A 1/a 2/AA 3/ 4/#23 5>>", 0, 1, 2, 3, 4, 5, 6, 7, 8, 9, 10);
        dueChildren(c, "<</A 1/#41 2>>", DOUBLE, 1, 4);
        dueChildren(c, "<</A 1/B<</A 2>>>>", 0, 1, 2, 3, 4);
        dueChildren(c, "<</A/A/B/A>>", 0, 1, 2, 3, 4);
        c.dueValue("[<</A 1>><</A 2>>]", ARRAY, 0);
        String long40 = "k".repeat(39);
        dueChildren(c, "<</" + long40 + "a 1/" + long40 + "b 2>>", 0, 1, 2, 3, 4);
        dueChildren(c, "<</" + long40 + "a 1/" + long40 + "a 2>>", DOUBLE, 1, 4);
        c.read("1 0 obj<</A 1/A 2>>endobj 2 0 obj<</A 1>>endobj");
        c.due("of the first object", c.x.object(0, 5), DOUBLE);
        c.due("not of the second", c.x.object(1, 5), 0);
    }

    private static void doubledBeforeAFault(Checks c) {
        c.dueFaultIn("[<</A 1/A 2>> }", 2, 14, DOUBLE);
        c.dueFaultIn("[} <</A 1/A 2>>", 2, 1, 0);
        c.dueFaultIn("[<</A 1/A null>> --1 <7> }", 2, 25, DOUBLE | SyntaxRows.ODD);
    }

    /** "7 a key that is no name (also > alone [..]): at its first byte." */
    private static void keys(Checks c) {
        String[] wrong = {"5", "(a)", "<41>", "[]", "<<>>", "null", "true", "1 0 R", ">", "> >", "]", "}", "{", ")", "\u00ff", "endobj"};
        for (String key : wrong) {
            c.dueFaultIn("<<" + key + " 1>>", 7, 2, 0);
            c.dueFaultIn("<< /A 1 " + key + " 1>>", 7, 8, 0);
        }
        c.dueFault("1 0 obj<</A 1>", 7, 13, 0);
        c.dueFault("1 0 obj<</A 1> >", 7, 13, 0);
        c.due(">> closes", c.read("1 0 obj<</A 1>>endobj"), 1);
        c.due(">> closes: fault", c.x.object(0, 3), 0);
    }

    private static void unclosed(Checks c) {
        c.dueEnd("1 0 obj [", 0);
        c.dueEnd("1 0 obj [1", 0);
        c.dueEnd("1 0 obj [[]", 0);
        c.dueEnd("1 0 obj <<", 0);
        c.dueEnd("1 0 obj <</A", 0);
        c.dueEnd("1 0 obj <</A 1", 0);
        c.dueEnd("1 0 obj <</A 1%>>", 0);
        c.dueFaultIn("[1>>", 2, 2, 0);
        c.dueFaultIn("[1>", 2, 2, 0);
        c.dueFaultIn("<</A 1]", 7, 6, 0);
        c.dueFaultIn("<</A]", 2, 4, 0);
        c.dueFaultIn("<</A>>", 2, 4, 0);
        c.dueFaultIn("]", 2, 0, 0);
        c.dueFaultIn(">>", 2, 0, 0);
        c.dueFaultIn("[]]", 2, 2, 0);
        c.dueFaultIn("<<>>>>", 2, 4, 0);
    }

    /** "VALUES have numbers from 0 on, as their first bytes come (keys, too, and what a dictionary has not, or no more; [..])". */
    private static void numbering(Checks c) {
        c.read("1 0 obj[7 0 R<</A[null]/B null/A 1>>]endobj 2 0 obj<</C 3>>stream\nx\nendstream endobj 3 0 obj 9 endobj");
        int[] kinds = {ARRAY, SyntaxRows.REFERENCE, DICTIONARY, SyntaxRows.NAME, ARRAY, SyntaxRows.NULL, SyntaxRows.NAME,
            SyntaxRows.NULL, SyntaxRows.NAME, SyntaxRows.WHOLE, DICTIONARY, SyntaxRows.NAME, SyntaxRows.WHOLE, SyntaxRows.STREAM,
            SyntaxRows.WHOLE};
        c.due("all values", c.x.told(3), kinds.length);
        for (int v = 0; v < kinds.length; v++) {
            c.due("kind of value " + v, c.x.value(v, 0), kinds[v]);
        }
        c.due("of object 0", c.x.object(0, 2), 0);
        c.due("of object 1", c.x.object(1, 2), 13);
        c.due("of object 2", c.x.object(2, 2), 14);
        c.dueIndex("value(15, 0)", () -> c.x.value(15, 0));
    }
}
