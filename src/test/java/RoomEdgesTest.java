/** Terms: the bounds of the tape, of values, of their bytes and of objects, and which fault is met first there. */
public final class RoomEdgesTest {
    /** An object with 299 values, and one with 300. */
    private static final String ALMOST = "1 0 obj[" + "/".repeat(298) + "]endobj ";
    private static final String FULL = "1 0 obj[" + "/".repeat(299) + "]endobj ";

    public static void main(String[] args) {
        Checks c = new Checks();
        tapeOf1600(c);
        lastByteOfTheTape(c);
        values300(c);
        valuesOfEachKind(c);
        valuesOfSeveralObjects(c);
        keysWithoutRoom(c);
        streamsWithoutRoom(c);
        fiveBeforeSix(c);
        sevenBeforeSix(c);
        twoBeforeSix(c);
        sixBeforeOthers(c);
        oneBeforeSix(c);
        roomComesBack(c);
        notedBeforeSix(c);
        asManyBytesAsATapeCanGive(c);
        c.end();
    }

    /** "THE TAPE has up to 1600 bytes." */
    private static void tapeOf1600(Checks c) {
        c.x = new SyntaxRows();
        String text = "x".repeat(1592);
        c.due("1592 bytes", c.feed(text), 1592);
        c.due("1600 bytes", c.feed("yyyyyyyy"), 1600);
        c.due("1601 bytes", c.x.feed(1, 'z'), -1);
        c.due("told", c.x.told(0), 1600);
        c.due("read()", c.x.read(), 0);
        c.due("stray", c.x.told(4), 1600);
        c.x = new SyntaxRows();
        c.feed(text);
        c.feed("yyyyyyy");
        c.due("1601 bytes by two", c.x.feed(2, 0), -1);
        c.due("told", c.x.told(0), 1599);
        c.due("1600 bytes by one", c.x.feed(1, 0), 1600);
    }

    private static void lastByteOfTheTape(Checks c) {
        String text = " ".repeat(1584) + "1 0 obj 5 endobj";
        c.due("an object at the very end", c.read(text), 1);
        c.due("fault", c.x.object(0, 3), 0);
        c.due("begins", c.x.object(0, 6), 1584);
        c.due("ends", c.x.object(0, 7), 1600);
        text = "1 0 obj" + " ".repeat(1592) + "5";
        c.dueEnd(text, 0);
        c.due("place", c.x.object(0, 4), 1600);
        c.dueCounts(" ".repeat(1599) + "5", 0, 1);
    }

    /** "6 no room for a value (300 in all; [..]): at its first byte". */
    private static void values300(Checks c) {
        c.due("300 values", c.read(FULL), 1);
        c.due("300 values: fault", c.x.object(0, 3), 0);
        c.due("300 values: told", c.x.told(3), 300);
        c.due("the last one", c.x.value(299, 0), SyntaxRows.NAME);
        c.due("the last child", c.x.child(0, 298), 299);
        c.due("no child behind it", c.x.child(0, 299), -1);
        c.dueIndex("value(300, 0)", () -> c.x.value(300, 0));
        c.dueFault("1 0 obj[" + "/".repeat(300) + "]endobj", 6, 8 + 299, 0);
        c.due("none are there", c.x.told(3), 0);
        c.dueFault("1 0 obj[" + "/".repeat(1500) + "]endobj", 6, 8 + 299, 0);
        c.dueFault("1 0 obj[" + "1 ".repeat(300) + "]endobj", 6, 8 + 2 * 299, 0);
    }

    private static void valuesOfEachKind(Checks c) {
        String[] one = {"5", "1.5", "null", "true", "false", "/a", "(a)", "<41>", "[]", "<<>>", "7 0 R"};
        for (String value : one) {
            c.due(value + " is the 300th", c.read(ALMOST + "2 0 obj " + value + " endobj"), 2);
            c.due(value + " is the 300th: fault", c.x.object(1, 3), 0);
            c.due(value + " is the 300th: its number", c.x.object(1, 2), 299);
            c.due(value + " is the 301st", c.read(FULL + "2 0 obj " + value + " endobj"), 2);
            c.dueFault(value + " is the 301st", 1, 6, FULL.length() + 8, 0);
            c.due(value + " is the 301st: all values", c.x.told(3), 300);
        }
    }

    private static void valuesOfSeveralObjects(Checks c) {
        String text = ("1 0 obj[" + "/".repeat(59) + "]endobj ").repeat(5);
        c.due("five times 60", c.read(text), 5);
        c.due("all values", c.x.told(3), 300);
        c.due("the last array", c.x.object(4, 2), 240);
        c.due("one more", c.read(text + "2 0 obj 5 endobj"), 6);
        c.dueFault("one more", 5, 6, text.length() + 8, 0);
        c.due("an end closes when full", c.read("1 0 obj<</A[" + "/".repeat(297) + "]>>endobj"), 1);
        c.due("an end closes when full: fault", c.x.object(0, 3), 0);
        c.due("an end closes when full: values", c.x.told(3), 300);
    }

    private static void keysWithoutRoom(Checks c) {
        String text = "1 0 obj[" + "/".repeat(297) + "<<";
        c.due("a key is the 300th", c.read(text + "/K"), 1);
        c.dueFault("a key is the 300th", 0, 1, text.length() + 2, 0);
        c.dueFault(text + "/K 5>>]endobj", 6, text.length() + 3, 0);
        c.dueFault("1 0 obj[" + "/".repeat(298) + "<</K 5>>]endobj", 6, text.length() + 1, 0);
        // What a dictionary has not, or no more, takes room, too.
        String nulls = "1 0 obj<<" + "/A null".repeat(149);
        c.due("149 keys of null", c.read(nulls + ">>endobj"), 1);
        c.due("149 keys of null: values", c.x.told(3), 299);
        c.due("149 keys of null: none", c.x.value(0, 1), 0);
        c.dueFault(nulls + "/A null>>endobj", 6, nulls.length() + 3, 0);
        String doubles = "1 0 obj<<" + "/A 1".repeat(149);
        c.dueFault(doubles + "/A 1>>endobj", 6, doubles.length() + 3, SyntaxRows.DOUBLE);
    }

    /** "(of a stream at the word stream)". */
    private static void streamsWithoutRoom(Checks c) {
        String two = "1 0 obj[" + "/".repeat(297) + "]endobj 2 0 obj<<>>";
        String one = "1 0 obj[" + "/".repeat(298) + "]endobj 2 0 obj<<>>";
        String stream = "stream\nabc\nendstream endobj";
        c.due("a stream is the 300th", c.read(two + stream), 2);
        c.due("a stream is the 300th: fault", c.x.object(1, 3), 0);
        c.due("a stream is the 300th: its number", c.x.object(1, 2), 299);
        c.read(one + stream);
        c.dueFault("a stream is the 301st", 1, 6, one.length(), 0);
        c.due("a stream is the 301st: all values", c.x.told(3), 299);
        c.read(one + " \n" + stream);
        c.dueFault("a stream is the 301st, behind white", 1, 6, one.length() + 2, 0);
        c.read(one + "stream\nabc endobj");
        c.dueFault("6 before 8", 1, 6, one.length(), 0);
        c.read(one + "endobj");
        c.due("no stream: fault", c.x.object(1, 3), 0);
    }

    /** "6 [..] looked at when its first byte is, behind 5". */
    private static void fiveBeforeSix(Checks c) {
        c.dueFault("1 0 obj[" + "/".repeat(291) + "[[[[[[[[", 5, 8 + 291 + 7, 0);
        c.dueFault("1 0 obj[" + "/".repeat(292) + "[[[[[[[[", 5, 8 + 292 + 7, 0);
        c.dueFault("1 0 obj[" + "/".repeat(292) + "[[[[[[[<<", 5, 8 + 292 + 7, 0);
        c.dueFault("1 0 obj[" + "/".repeat(292) + "[[[[[[[<41>", 6, 8 + 292 + 7, 0);
        c.dueFault("1 0 obj[" + "/".repeat(293) + "[[[[[[[[", 6, 8 + 293 + 6, 0);
        c.dueFault("1 0 obj[" + "/".repeat(293) + "[[[[[[<<", 6, 8 + 293 + 6, 0);
    }

    /** "7 a key that is no name (also > alone; before 6)". */
    private static void sevenBeforeSix(Checks c) {
        String text = "1 0 obj[" + "/".repeat(298) + "<<";
        String[] wrong = {"5", "(a)", "<41>", "[]", "<<>>", "null", ">", "> >", "]", "}", "\u00ff"};
        for (String key : wrong) {
            c.dueFault(text + key + " 1>>]endobj", 7, text.length(), 0);
        }
        c.dueFault(text + "/a 1>>]endobj", 6, text.length(), 0);
    }

    private static void twoBeforeSix(Checks c) {
        String held = "1 0 obj[" + "/".repeat(297) + "<</K ";
        String[] wrong = {")", "]", ">", ">>", "{", "}", "\u0001", "\u007f", "\u00ff"};
        for (String bytes : wrong) {
            c.dueFault(held + bytes + ">>]endobj", 2, held.length(), 0);
            c.read(FULL + "2 0 obj " + bytes + " endobj");
            c.dueFault(bytes + " as a whole value", 1, 2, FULL.length() + 8, 0);
        }
    }

    /** Where a value begins, room is looked at before the rest of it is. */
    private static void sixBeforeOthers(Checks c) {
        String[] wrong = {"x", "1000000000", "/#00", "/" + "x".repeat(41), "(" + "x".repeat(201) + ")", "<z>", "(", "<", "endobj", "."};
        for (String value : wrong) {
            c.read(FULL + "2 0 obj " + value + " endobj");
            c.dueFault(value + " without room", 1, 6, FULL.length() + 8, 0);
        }
    }

    private static void oneBeforeSix(Checks c) {
        String array = "1 0 obj[" + "/".repeat(299);
        c.dueEnd(array, 0);
        c.dueEnd(array + " %x", 0);
        c.dueEnd("1 0 obj[" + "/".repeat(297) + "<</K", 0);
        c.dueEnd("1 0 obj[" + "/".repeat(298) + "<<", 0);
        c.read(FULL + "2 0 obj ");
        c.dueFault("no value at all", 1, 1, FULL.length() + 8, 0);
    }

    /** "its values are no more": so their room is free. */
    private static void roomComesBack(Checks c) {
        String wrong = "1 0 obj[" + "/".repeat(299) + "}endobj ";
        c.due("300 values twice", c.read(wrong + FULL), 2);
        c.due("the first: fault", c.x.object(0, 3), 2);
        c.due("the second: fault", c.x.object(1, 3), 0);
        c.due("the second: its number", c.x.object(1, 2), 0);
        c.due("all values", c.x.told(3), 300);
        String tooMany = "1 0 obj[" + "/".repeat(300) + "]endobj ";
        c.due("behind 6", c.read(tooMany + FULL), 2);
        c.due("behind 6: fault", c.x.object(0, 3), 6);
        c.due("behind 6: the second", c.x.object(1, 3), 0);
        // A string that is too long, once more inside itself, twelve times: more than 2000 bytes if they stayed.
        String text = "1 0 obj ( endobj ".repeat(12) + "x".repeat(250) + ")";
        c.due("twelve strings too long", c.read(text), 12);
        for (int i = 0; i < 12; i++) {
            c.due("string " + i + " is too long", c.x.object(i, 3), 3);
        }
        String behind = text + " endobj 2 0 obj (" + "y".repeat(200) + ") endobj";
        c.due("one behind them", c.read(behind), 13);
        c.due("one behind them: fault", c.x.object(12, 3), 0);
    }

    private static void notedBeforeSix(Checks c) {
        c.dueFault("1 0 obj[--1" + "/".repeat(299) + "]endobj", 6, 11 + 298, SyntaxRows.ODD);
        c.dueFault("1 0 obj[" + "/".repeat(299) + "<7>]endobj", 6, 8 + 299, 0);
    }

    /** A tape of 1600 can't give 2000 bytes: as many as it can give have room. */
    private static void asManyBytesAsATapeCanGive(Checks c) {
        String text = "1 0 obj[" + ("(" + "x".repeat(200) + ")").repeat(7) + "(" + "x".repeat(161) + ")]endobj";
        c.due("bytes of the tape", text.length(), 8 + 7 * 202 + 163 + 7);
        c.due("strings", c.read(text), 1);
        c.due("strings: fault", c.x.object(0, 3), 0);
        c.due("strings: values", c.x.told(3), 9);
        c.due("strings: the last byte", c.x.byteOf(8, 160), 'x');
        String names = "1 0 obj[" + ("/" + "x".repeat(40)).repeat(38) + "]endobj";
        c.due("names", c.read(names), 1);
        c.due("names: fault", c.x.object(0, 3), 0);
        c.due("names: the last byte", c.x.byteOf(38, 39), 'x');
        String streams = ("1 0 obj<<>>stream\n" + "x".repeat(400) + "endstream endobj ").repeat(3);
        c.due("streams", c.read(streams), 3);
        c.due("streams: fault", c.x.object(2, 3), 0);
        c.due("streams: the last byte", c.x.byteOf(5, 399), 'x');
    }
}
