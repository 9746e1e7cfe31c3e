/** Terms: words, numbers and references, each sentence on both sides of its bound. */
public final class NumberEdgesTest {
    private static final int WHOLE = SyntaxRows.WHOLE;
    private static final int REAL = SyntaxRows.REAL;
    private static final int ODD = SyntaxRows.ODD;

    public static void main(String[] args) {
        Checks c = new Checks();
        words(c);
        signs(c);
        firstSignCounts(c);
        onePoint(c);
        oneFigure(c);
        nineBefore(c);
        sixBehind(c);
        zerosCount(c);
        zero(c);
        noNumber(c);
        references(c);
        referenceFigures(c);
        referenceWithoutSign(c);
        noReference(c);
        c.end();
    }

    /** "A word true, false or null." */
    private static void words(Checks c) {
        c.dueNumber("true", SyntaxRows.TRUTH, 0, 1);
        c.dueNumber("false", SyntaxRows.TRUTH, 0, 0);
        c.dueNumber("null", SyntaxRows.NULL, 0, 0);
        String[] wrong = {"tru", "truee", "True", "TRUE", "fals", "falsee", "nul", "nulll", "Null", "truefalse", "null0", "0null", "endobj"};
        for (String word : wrong) {
            c.dueFaultIn(word, 2, 0, 0);
        }
        c.dueFault("1 0 obj trueendobj", 2, 8, 0);
        c.due("words without white", c.read("1 0 obj[true[false]null]endobj"), 1);
        c.due("words without white: values", c.x.told(3), 5);
    }

    /** "a word of signs + or - (perhaps none), then figures". */
    private static void signs(Checks c) {
        c.dueNumber("5", WHOLE, 0, 5);
        c.dueNumber("+5", WHOLE, 0, 5);
        c.dueNumber("-5", WHOLE, 0, -5);
        c.dueNumber("+-+-+-+-+-5", WHOLE, ODD, 5);
        c.dueNumber("-".repeat(1000) + "5", WHOLE, ODD, -5);
        c.dueFaultIn("5-", 2, 0, 0);
        c.dueFaultIn("5+5", 2, 0, 0);
        c.dueFaultIn(".-5", 2, 0, 0);
        c.dueFaultIn("-.+5", 2, 0, 0);
        c.dueFaultIn("5.-", 2, 0, 0);
    }

    /** "of more than one sign the first one counts (ODD)". */
    private static void firstSignCounts(Checks c) {
        c.dueNumber("--7", WHOLE, ODD, -7);
        c.dueNumber("-+7", WHOLE, ODD, -7);
        c.dueNumber("+-7", WHOLE, ODD, 7);
        c.dueNumber("++7", WHOLE, ODD, 7);
        c.dueNumber("-+.5", REAL, ODD, -500000);
        c.dueNumber("+-.5", REAL, ODD, 500000);
        c.dueNumber("-.5", REAL, 0, -500000);
        c.dueNumber("+.5", REAL, 0, 500000);
    }

    /** "with at most one point"; "With a point it is a REAL (in millionths), else WHOLE." */
    private static void onePoint(Checks c) {
        c.dueNumber("12", WHOLE, 0, 12);
        c.dueNumber("12.", REAL, 0, 12000000);
        c.dueNumber("1.2", REAL, 0, 1200000);
        c.dueNumber(".12", REAL, 0, 120000);
        String[] wrong = {"12..", "1..2", "..12", "1.2.", ".1.2", ".12.", "1.2.3"};
        for (String word : wrong) {
            c.dueFaultIn(word, 2, 0, 0);
        }
    }

    /** "one figure at least". */
    private static void oneFigure(Checks c) {
        c.dueNumber("0.", REAL, 0, 0);
        c.dueNumber(".0", REAL, 0, 0);
        c.dueNumber("-0", WHOLE, 0, 0);
        String[] wrong = {".", "-", "+", "-.", "+.", "--", "--.", ".."};
        for (String word : wrong) {
            c.dueFaultIn(word, 2, 0, 0);
        }
    }

    /** "9 figures before a point at most"; "4 a number that is too long: at its first byte". */
    private static void nineBefore(Checks c) {
        c.dueNumber("999999999", WHOLE, 0, 999999999);
        c.dueNumber("-999999999", WHOLE, 0, -999999999);
        c.dueNumber("--999999999", WHOLE, ODD, -999999999);
        c.dueNumber("999999999.", REAL, 0, 999999999000000L);
        c.dueNumber("-999999999.999999", REAL, 0, -999999999999999L);
        c.dueFaultIn("1000000000", 4, 0, 0);
        c.dueFaultIn("-1000000000", 4, 0, 0);
        c.dueFaultIn("1000000000.", 4, 0, 0);
        c.dueFaultIn("1000000000.0", 4, 0, 0);
        // Numbers that would wrap round in 32 or 64 bits are too long before they do.
        c.dueFaultIn("4294967297", 4, 0, 0);
        c.dueFaultIn("18446744073709551617", 4, 0, 0);
        c.dueFaultIn("1".repeat(1500), 4, 0, 0);
        c.dueFaultIn("[ /a 1000000000 ]", 4, 5, 0);
        c.dueFaultIn("<</a 1000000000>>", 4, 5, 0);
        c.dueFault("1 0 obj 1000000000", 4, 8, 0);
    }

    /** "6 behind one". */
    private static void sixBehind(Checks c) {
        c.dueNumber(".000001", REAL, 0, 1);
        c.dueNumber("-.999999", REAL, 0, -999999);
        c.dueNumber("1.234567", REAL, 0, 1234567);
        c.dueNumber("1.23456", REAL, 0, 1234560);
        c.dueFaultIn(".0000001", 4, 0, 0);
        c.dueFaultIn("1.2345678", 4, 0, 0);
        c.dueFaultIn("-1.2345678", 4, 0, 0);
        c.dueFaultIn("." + "1".repeat(1500), 4, 0, 0);
    }

    /** "(zeros count)". */
    private static void zerosCount(Checks c) {
        c.dueNumber("000000000", WHOLE, 0, 0);
        c.dueNumber("000000001", WHOLE, 0, 1);
        c.dueNumber("000000001.100000", REAL, 0, 1100000);
        c.dueNumber(".000000", REAL, 0, 0);
        c.dueFaultIn("0000000000", 4, 0, 0);
        c.dueFaultIn("0000000001", 4, 0, 0);
        c.dueFaultIn("0000000001.1", 4, 0, 0);
        c.dueFaultIn(".0000000", 4, 0, 0);
        c.dueFaultIn("1.1000000", 4, 0, 0);
    }

    private static void zero(Checks c) {
        c.dueNumber("0", WHOLE, 0, 0);
        c.dueNumber("+0", WHOLE, 0, 0);
        c.dueNumber("--0", WHOLE, ODD, 0);
        c.dueNumber("-0.0", REAL, 0, 0);
    }

    /** A word that is no number can't stand, however long: 2 and not 4. */
    private static void noNumber(Checks c) {
        String[] wrong = {"1000000000x", "x1000000000", "1000000000-", "1.0000000.", "1e5", "0x10", "1,5", "1#", "R"};
        for (String word : wrong) {
            c.dueFaultIn(word, 2, 0, 0);
        }
    }

    /** "A whole number without a sign, white, another such, white and the word R, are a REFERENCE (then both are no numbers)." */
    private static void references(Checks c) {
        c.dueNumber("0 0 R", SyntaxRows.REFERENCE, 0, 0);
        c.dueNumber("1 0 R", SyntaxRows.REFERENCE, 0, 1);
        c.dueNumber("0 1 R", SyntaxRows.REFERENCE, 0, 1000000000L);
        c.dueNumber("3%R\n\0%R\r4\tR", SyntaxRows.REFERENCE, 0, 4000000003L);
        int v = c.dueValue("[1 2 3 R 4 5 R]", SyntaxRows.ARRAY, 0);
        c.due("1, 2 3 R, 4 5 R", c.x.value(v, 1), 3);
        c.due("all values", c.x.told(3), 4);
        c.due("1", c.x.number(1), 1);
        c.due("2 3 R", c.x.number(2), 3000000002L);
        c.due("4 5 R", c.x.number(3), 5000000004L);
        c.due("R before a sign", c.read("1 0 obj[1 0 R]endobj"), 1);
        c.due("R before a sign: kind", c.x.value(1, 0), SyntaxRows.REFERENCE);
        c.dueEnd("1 0 obj 1 0 R", 0);
        c.dueEnd("1 0 obj [1 0", 0);
        c.dueEnd("1 0 obj [1 0 R", 0);
    }

    private static void referenceFigures(Checks c) {
        c.dueNumber("999999999 999999999 R", SyntaxRows.REFERENCE, 0, 999999999999999999L);
        c.dueNumber("000000007 000000008 R", SyntaxRows.REFERENCE, 0, 8000000007L);
        c.dueFaultIn("1000000000 0 R", 4, 0, 0);
        c.dueFaultIn("[0 1000000000 R]", 4, 3, 0);
        c.dueFaultIn("0 1000000000 R", 2, 2, 0);
        c.dueFaultIn("[0000000007 0 R]", 4, 1, 0);
    }

    private static void referenceWithoutSign(Checks c) {
        c.dueFaultIn("[+1 0 R]", 2, 6, 0);
        c.dueFaultIn("[-1 0 R]", 2, 6, 0);
        c.dueFaultIn("[1 +0 R]", 2, 6, 0);
        c.dueFaultIn("[--1 0 R]", 2, 7, ODD);
        c.dueFaultIn("+1 0 R", 2, 3, 0);
    }

    private static void noReference(Checks c) {
        c.dueFaultIn("[1. 0 R]", 2, 6, 0);
        c.dueFaultIn("[1 .0 R]", 2, 6, 0);
        c.dueFaultIn("[1 0 RR]", 2, 5, 0);
        c.dueFaultIn("[1 0 r]", 2, 5, 0);
        c.dueFaultIn("[1 0R]", 2, 3, 0);
        c.dueFaultIn("[1 R]", 2, 3, 0);
        c.dueFaultIn("[1/a 0 R]", 2, 7, 0);
        c.dueFaultIn("[1 0(a)R]", 2, 7, 0);
        c.dueFaultIn("[1 0/R R]", 2, 7, 0);
    }
}
