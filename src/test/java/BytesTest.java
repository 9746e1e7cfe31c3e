/** The sorts of bytes that "Terms" names, each of the 256 at every place where its sort matters. */
public final class BytesTest {
    private static final String WHITE = "\0\t\n\f\r ";
    private static final String SIGNS = "()<>[]{}/%";
    private static final String FIGURES_16 = "0123456789abcdefABCDEF";

    public static void main(String[] args) {
        Checks c = new Checks();
        for (int b = 0; b < 256; b++) {
            outside(c, (char) b);
            behindPercent(c, (char) b);
            percentUpToIt(c, (char) b);
            inHead(c, (char) b);
            behindHead(c, (char) b);
            inName(c, (char) b);
            coded(c, (char) b);
            inString(c, (char) b);
            behindBackslash(c, (char) b);
            inFigureString(c, (char) b);
            inStream(c, (char) b);
            asValue(c, (char) b);
            asValueWithoutRoom(c, (char) b);
            asKey(c, (char) b);
            behindWordStream(c, (char) b);
            roundEndobj(c, (char) b);
            written(c, (char) b);
        }
        c.end();
    }

    private static boolean isWhite(char b) {
        return WHITE.indexOf(b) >= 0;
    }

    /** "Others, from 33 to 126, are REGULAR." */
    private static boolean isRegular(char b) {
        return b >= 33 && b <= 126 && SIGNS.indexOf(b) < 0;
    }

    private static boolean isFigure(char b) {
        return b >= '0' && b <= '9';
    }

    private static boolean isFigure16(char b) {
        return FIGURES_16.indexOf(b) >= 0;
    }

    /** "other bytes but white are STRAY". */
    private static void outside(Checks c, char b) {
        c.dueCounts("" + b, 0, isWhite(b) || b == '%' ? 0 : 1);
        c.dueCounts(b + "1 0 obj 5 endobj", b == '%' ? 0 : 1, isWhite(b) || isFigure(b) || b == '%' ? 0 : 1);
    }

    /** "% with all bytes up to the next 10 or 13 (which is white, too) or the end". */
    private static void behindPercent(Checks c, char b) {
        c.dueCounts("%" + b + "z", 0, b == '\n' || b == '\r' ? 1 : 0);
    }

    private static void percentUpToIt(Checks c, char b) {
        c.dueCounts("%1" + b + "2 0 obj 5 endobj\n3 0 obj 6 endobj", b == '\n' || b == '\r' ? 2 : 1, 0);
    }

    private static void inHead(Checks c, char b) {
        c.due("byte " + (int) b + " between two figures", c.read("1" + b + "0 obj 5 endobj"), isWhite(b) ? 1 : 0);
        c.due("byte " + (int) b + " before obj", c.read("1 0" + b + "obj 5 endobj"), isWhite(b) ? 1 : 0);
    }

    /** The word obj ends where no regular byte comes. */
    private static void behindHead(Checks c, char b) {
        int objects = c.read("1 0 obj" + b + "\n5 endobj");
        c.due("byte " + (int) b + " behind obj", objects, isRegular(b) ? 0 : 1);
        if (isWhite(b) || b == '%') {
            c.due("byte " + (int) b + " behind obj: fault", c.x.object(0, 3), 0);
        }
    }

    private static void inName(Checks c, char b) {
        String text = "1 0 obj/a" + b + "x endobj";
        if (isRegular(b)) {
            c.due(text, c.read(text), 1);
            c.dueText(text, c.bytes(0), "a" + b + "x");
        } else if (b == '%') {
            c.dueEnd(text, 0);
        } else {
            c.dueFault(text, 2, isWhite(b) ? 10 : 9, 0);
        }
    }

    /** "# and two figures of base 16 (0 .. 9, a .. f, A .. F) standing for a byte, not 0; any other # for itself". */
    private static void coded(Checks c, char b) {
        String text = "/" + String.format(b % 2 == 0 ? "#%02x" : "#%02X", (int) b);
        if (b == 0) {
            c.dueFaultIn(text, 3, 0, 0);
        } else {
            c.dueBytes(text, SyntaxRows.NAME, 0, "" + b);
        }
        if (isRegular(b) && b != '#') {
            boolean figure = isFigure16(b);
            char high = figure ? (char) Integer.parseInt(b + "7", 16) : ' ';
            char low = figure ? (char) Integer.parseInt("7" + b, 16) : ' ';
            c.dueBytes("/#" + b + "7", SyntaxRows.NAME, 0, figure ? "" + high : "#" + b + "7");
            c.dueBytes("/#7" + b, SyntaxRows.NAME, 0, figure ? "" + low : "#7" + b);
        }
    }

    private static void inString(Checks c, char b) {
        if (b == '(' || b == ')' || b == '\\') {
            return;
        }
        c.dueBytes("(a" + b + "z)", SyntaxRows.STRING, 0, "a" + (b == '\r' ? '\n' : b) + "z");
    }

    /** "\ and n, r, t, b, f [..]; one to three figures 0 .. 7 [..]; the end of a line [..]; any other byte for that". */
    private static void behindBackslash(Checks c, char b) {
        int named = "nrtbf".indexOf(b);
        String meant = "" + b;
        if (named >= 0) {
            meant = "" + "\n\r\t\b\f".charAt(named);
        } else if (b >= '0' && b <= '7') {
            meant = "" + (char) (b - '0');
        } else if (b == '\n' || b == '\r') {
            meant = "";
        }
        c.dueBytes("(a\\" + b + "z)", SyntaxRows.STRING, 0, "a" + meant + "z");
    }

    private static void inFigureString(Checks c, char b) {
        if (isFigure16(b)) {
            c.dueBytes("<4" + b + ">", SyntaxRows.STRING, 0, "" + (char) Integer.parseInt("4" + b, 16));
            c.dueBytes("<" + b + "1>", SyntaxRows.STRING, 0, "" + (char) Integer.parseInt(b + "1", 16));
        } else if (isWhite(b)) {
            c.dueBytes("<" + b + "4" + b + "1" + b + ">", SyntaxRows.STRING, 0, "A");
        } else if (b == '>') {
            c.dueBytes("<4>", SyntaxRows.STRING, SyntaxRows.ODD, "@");
        } else {
            c.dueFaultIn("<4" + b + "1>", 2, 2, 0);
        }
    }

    private static void inStream(Checks c, char b) {
        String told = "1 0 obj<</Length 1>>stream\n" + b + "\nendstream endobj";
        c.due(told + " objects", c.read(told), 1);
        c.due(told + " noted", c.x.object(0, 5), 0);
        c.dueText(told, c.bytes(c.x.object(0, 2)), "" + b);
        String sought = "1 0 obj<<>>stream\na" + b + "z\nendstream endobj";
        c.due(sought + " objects", c.read(sought), 1);
        c.due(sought + " noted", c.x.object(0, 5), SyntaxRows.LIES);
        c.dueText(sought, c.bytes(c.x.object(0, 2)), "a" + b + "z");
    }

    /** What a value begins with, alone and with white round it. */
    private static void asValue(Checks c, char b) {
        if (isFigure(b)) {
            c.dueNumber("" + b, SyntaxRows.WHOLE, 0, b - '0');
        } else if (b == '/') {
            c.dueBytes("/", SyntaxRows.NAME, 0, "");
        } else if (b == '(' || b == '%') {
            c.dueEnd("1 0 obj " + b + " endobj", 0);
        } else if (b == '[') {
            c.dueFaultIn("[", 2, 2, 0);
        } else if (b == '<') {
            c.dueFaultIn("<", 2, 3, 0);
        } else {
            c.dueFaultIn("" + b, 2, isWhite(b) ? 2 : 0, 0);
        }
    }

    /** "6 no room for a value (300 in all; looked at when its first byte is [..])". */
    private static void asValueWithoutRoom(Checks c, char b) {
        String text = "1 0 obj[" + "/".repeat(299);
        boolean begins = isRegular(b) || b == '/' || b == '(' || b == '<' || b == '[';
        if (b == ']') {
            c.due("closed when full", c.read(text + "] endobj"), 1);
            c.due("closed when full: fault", c.x.object(0, 3), 0);
        } else if (isWhite(b) || b == '%') {
            c.dueEnd(text + b, 0);
        } else if (isRegular(b)) {
            c.dueFault(text + " " + b + "]", 6, text.length() + 1, 0);
        } else {
            c.dueFault(text + b + "]", begins ? 6 : 2, text.length(), 0);
        }
    }

    /** "7 a key that is no name (also > alone; before 6): at its first byte". */
    private static void asKey(Checks c, char b) {
        String text = "1 0 obj[" + "/".repeat(298) + "<<";
        if (isWhite(b) || b == '%') {
            c.dueEnd("1 0 obj<<" + b, 0);
            c.dueEnd(text + b, 0);
        } else if (b == '/') {
            c.dueFault("1 0 obj<</>>", 2, 10, 0);
            c.dueFault(text + b, 6, text.length(), 0);
        } else {
            c.dueFault("1 0 obj<<" + b, 7, 9, 0);
            c.dueFault(text + b, 7, text.length(), 0);
        }
    }

    /** "behind the word stream, too, and at the byte behind a 13 there that is no 10". */
    private static void behindWordStream(Checks c, char b) {
        String text = "1 0 obj<</Length 0>>stream";
        String rest = "endstream endobj";
        if (b == '\n') {
            c.due("10 behind stream", c.read(text + b + rest), 1);
            c.due("10 behind stream: fault", c.x.object(0, 3), 0);
            c.due("13 10 behind stream", c.read(text + "\r" + b + rest), 1);
            c.due("13 10 behind stream: fault", c.x.object(0, 3), 0);
            return;
        }
        if (isRegular(b)) {
            c.dueFault(text + b + rest, 2, 20, 0);
        } else {
            c.dueFault(text + b + rest, 2, b == '\r' ? 27 : 26, 0);
        }
        c.dueFault(text + "\r" + b + rest, 2, 27, 0);
    }

    /** "Reading goes on behind the next word endobj [..] (before it and behind it no regular byte)". */
    private static void roundEndobj(Checks c, char b) {
        c.dueFault("1 0 obj }" + b + "endobj", 2, 8, 0);
        c.due("byte " + (int) b + " before endobj: stray", c.read("1 0 obj }" + b + "endobj )"), 1);
        c.due("byte " + (int) b + " before endobj: stray", c.x.told(4), isRegular(b) ? 0 : 1);
        c.due("byte " + (int) b + " before endobj: ends", c.x.object(0, 7), isRegular(b) ? 18 : 16);
        c.due("byte " + (int) b + " behind endobj", c.read("1 0 obj } endobj" + b), 1);
        c.due("byte " + (int) b + " behind endobj: ends", c.x.object(0, 7), isRegular(b) ? 17 : 16);
        c.due("byte " + (int) b + " behind a right endobj", c.read("1 0 obj 5 endobj" + b), 1);
        c.due("byte " + (int) b + " behind a right endobj: fault", c.x.object(0, 3), isRegular(b) ? 2 : 0);
    }

    /** "names: /, each byte as it is, if it is regular and no #, else # and two figures"; "strings: ( .. ) with \ before \ ( ), 13 as \r". */
    private static void written(Checks c, char b) {
        String code = String.format("%02X", (int) b);
        if (b != 0) {
            c.read("1 0 obj /#" + code + " endobj");
            c.dueText("written name of " + (int) b, c.least(0), isRegular(b) && b != '#' ? "/" + b : "/#" + code);
        }
        c.read("1 0 obj <" + code + "> endobj");
        String inside = b == '\r' ? "\\r" : b == '\\' || b == '(' || b == ')' ? "\\" + b : "" + b;
        c.dueText("written string of " + (int) b, c.least(0), "(" + inside + ")");
    }
}
