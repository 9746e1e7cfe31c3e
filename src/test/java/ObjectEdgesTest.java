/** Terms: where objects begin and end, what is stray, which fault is met and where reading goes on. */
public final class ObjectEdgesTest {
    public static void main(String[] args) {
        Checks c = new Checks();
        nineFigures(c);
        whiteBetween(c);
        triedFromTheLeft(c);
        theWordObj(c);
        theWordEndobj(c);
        oneValueOnly(c);
        twentyObjects(c);
        whatWouldBeOneMore(c);
        placeOfTheEnd(c);
        goesOnAtThePlace(c);
        goesOnBehindThePlace(c);
        goesOnByWholeWords(c);
        goesOnAtTheEnd(c);
        valuesAreNoMore(c);
        noted(c);
        c.end();
    }

    private static void dueHead(Checks c, String text, int number, int generation, int begin) {
        c.due(text + " objects", c.read(text), 1);
        c.due(text + " number", c.x.object(0, 0), number);
        c.due(text + " generation", c.x.object(0, 1), generation);
        c.due(text + " begins", c.x.object(0, 6), begin);
        c.due(text + " fault", c.x.object(0, 3), 0);
        c.due(text + " stray", c.x.told(4), begin);
    }

    /** "a word of figures (9 at most), white, another such [..]: its NUMBER and its GENERATION (the values of both words)". */
    private static void nineFigures(Checks c) {
        dueHead(c, "0 0 obj 5 endobj", 0, 0, 0);
        dueHead(c, "999999999 999999999 obj 5 endobj", 999999999, 999999999, 0);
        dueHead(c, "000000000 000000001 obj 5 endobj", 0, 1, 0);
        // Of ten figures the first is stray, and then nine stand there.
        dueHead(c, "1999999999 0 obj 5 endobj", 999999999, 0, 1);
        dueHead(c, "1200000000003 0 obj 5 endobj", 3, 0, 4);
        c.dueCounts("0 1999999999 obj 5 endobj", 0, 21);
        c.dueCounts("0 0000000000 obj 5 endobj", 0, 21);
        c.due("find of the greatest", foundIn(c, "999999999 999999999 obj 5 endobj", 999999999, 999999999), 0);
        c.due("find of the least", foundIn(c, "0 0 obj 5 endobj", 0, 0), 0);
    }

    private static int foundIn(Checks c, String text, int number, int generation) {
        c.read(text);
        return c.x.find(number, generation);
    }

    private static void whiteBetween(Checks c) {
        dueHead(c, "1%\r2%\nobj%x\r5%y\nendobj", 1, 2, 0);
        dueHead(c, "1\0\0\t2\f\r\n obj\n5\rendobj", 1, 2, 0);
        c.dueCounts("1(2 obj 5 endobj", 0, 13);
        c.dueCounts("1/2 obj 5 endobj", 0, 13);
        c.dueCounts("1 2/obj 5 endobj", 0, 13);
        c.dueCounts("1 2obj 5 endobj", 0, 12);
        c.dueCounts("12 obj 5 endobj", 0, 12);
        c.dueCounts("1 2 %obj 5 endobj", 0, 2);
    }

    /** "this is tried from the left at each byte where white ends, or that is not white, outside of objects". */
    private static void triedFromTheLeft(Checks c) {
        dueHead(c, "x1 2 obj 5 endobj", 1, 2, 1);
        dueHead(c, "-1 2 obj 5 endobj", 1, 2, 1);
        dueHead(c, "(1 2 obj 5 endobj", 1, 2, 1);
        dueHead(c, "\u00ff1 2 obj 5 endobj", 1, 2, 1);
        c.dueCounts("0 1 2 obj 5 endobj", 1, 1);
        c.due("0 1 2 obj begins", c.x.object(0, 6), 2);
        c.dueCounts("1 -2 obj 5 endobj", 0, 13);
        c.dueCounts("1.0 2 obj 5 endobj", 1, 2);
        c.due("1.0 2 obj begins", c.x.object(0, 6), 2);
        c.dueCounts("(1 0 obj 5 endobj) <2 0 obj 6 endobj>", 2, 4);
        c.dueCounts("1 0 obj 5 endobj2 0 obj 6 endobj", 1, 0);
        c.due("endobj2 is no endobj", c.x.object(0, 3), 2);
        c.dueCounts("1 0 obj 5 endobj[2 0 obj 6 endobj", 2, 1);
    }

    private static void theWordObj(Checks c) {
        c.dueCounts("1 0 ob", 0, 4);
        c.dueCounts("1 0 obj5 endobj", 0, 12);
        c.dueCounts("1 0 Obj 5 endobj", 0, 12);
        c.dueCounts("1 0", 0, 2);
        c.dueCounts("1", 0, 1);
        c.dueCounts("1 0 obj", 1, 0);
        c.dueEnd("1 0 obj", 0);
        c.dueEnd("1 0 obj ", 0);
        c.dueCounts("1 0 obj(a)endobj", 1, 0);
        c.dueCounts("1 0 obj/a endobj", 1, 0);
    }

    /** "(What else stands where a word must is 2 at its first byte [..])". */
    private static void theWordEndobj(Checks c) {
        c.due("endobj at the tape's end", c.read("1 0 obj 5 endobj"), 1);
        c.due("endobj at the tape's end: fault", c.x.object(0, 3), 0);
        c.due("endobj at the tape's end: ends", c.x.object(0, 7), 16);
        c.due("no white before it", c.read("1 0 obj[]endobj"), 1);
        c.due("no white before it: fault", c.x.object(0, 3), 0);
        c.dueEnd("1 0 obj 5", 0);
        c.dueEnd("1 0 obj 5 ", 0);
        c.dueEnd("1 0 obj 5 %endobj", 0);
        c.dueFault("1 0 obj 5 e", 2, 10, 0);
        c.dueFault("1 0 obj 5 endob", 2, 10, 0);
        c.dueFault("1 0 obj 5 endobjj", 2, 10, 0);
        c.dueFault("1 0 obj 5 Endobj", 2, 10, 0);
        c.dueFault("1 0 obj 5 stream\nendstream endobj", 2, 10, 0);
        c.dueFault("1 0 obj 5 endstream endobj", 2, 10, 0);
        c.dueFault("1 0 obj 5 obj endobj", 2, 10, 0);
    }

    private static void oneValueOnly(Checks c) {
        String[] more = {"6", "/a", "(a)", "<41>", "[]", "<<>>", "]", ">", "{", "\u0001", "\u007f", "\u0080"};
        for (String other : more) {
            c.dueFaultIn("[]" + other, 2, 2, 0);
            c.dueFaultIn("5  " + other, 2, 3, 0);
        }
        c.dueFault("1 0 obj endobj", 2, 8, 0);
        c.due("none: ends", c.x.object(0, 7), 14);
    }

    /** "20 objects at most". */
    private static void twentyObjects(Checks c) {
        String one = "1 0 obj 5 endobj ";
        c.dueCounts(one.repeat(19), 19, 0);
        c.dueCounts(one.repeat(20), 20, 0);
        c.dueCounts(one.repeat(21), 20, 12);
        c.due("values of twenty", c.x.told(3), 20);
        c.due("the latest of them", c.x.find(1, 0), 19);
        c.due("where the last ends", c.x.object(19, 7), 20 * 17 - 1);
        c.dueIndex("object(20, 0)", () -> c.x.object(20, 0));
        String wrong = "1 0 obj } endobj ";
        c.dueCounts(wrong.repeat(21), 20, 12);
        c.due("objects with faults count, too", c.x.object(19, 3), 2);
        c.due("and have no values", c.x.told(3), 0);
        c.dueCounts(wrong.repeat(19) + one, 20, 0);
        c.due("the twentieth", c.x.object(19, 2), 0);
    }

    /** "what would be one more is STRAY (byte by byte)". */
    private static void whatWouldBeOneMore(Checks c) {
        String full = "1 0 obj 5 endobj ".repeat(20);
        c.dueCounts(full + "2 0 obj (a b) endobj", 20, 15);
        c.dueCounts(full + "2 0 obj (a%b) endobj\n", 20, 7);
        c.dueCounts(full + "2%c\n0 obj ) endobj 3", 20, 13);
        c.dueCounts(full + "2 0 obj<<>>stream\n1 0 obj 5 endobj\nendstream endobj", 20, 5 + 4 + 6 + 12 + 9 + 6);
        c.due("it can't be found", c.x.find(2, 0), -1);
    }

    /** "1 the tape ends: at its end." */
    private static void placeOfTheEnd(Checks c) {
        String text = "9 0 obj 5 endobj 1 0 obj [(a) <<";
        c.due("the second", c.read(text), 2);
        c.dueFault(text, 1, 1, text.length(), 0);
        c.due("it ends", c.x.object(1, 7), text.length());
        c.due("the first stays", c.x.object(0, 2), 0);
    }

    private static void dueEnds(Checks c, String text, int end) {
        c.read(text);
        c.due(text + " ends", c.x.object(0, 7), end);
    }

    /** "Reading goes on behind the next word endobj that begins at the fault's place [..]". */
    private static void goesOnAtThePlace(Checks c) {
        dueEnds(c, "1 0 obj endobj endobj", 14);
        dueEnds(c, "1 0 obj [endobj endobj", 15);
        dueEnds(c, "1 0 obj <</A endobj endobj", 19);
        dueEnds(c, "1 0 obj <</A 1 endobj endobj", 21);
        dueEnds(c, "1 0 obj (endobj(a)) endobj", 26);
        c.dueCounts("1 0 obj [endobj 2 0 obj 6 endobj", 2, 0);
    }

    /** "[..] or behind it": what stands before the place does not count, though it was read. */
    private static void goesOnBehindThePlace(Checks c) {
        dueEnds(c, "1 0 obj [/endobj(endobj)} endobj", 32);
        dueEnds(c, "1 0 obj [%endobj\n} endobj", 25);
        dueEnds(c, "1 0 obj }%endobj\n endobj", 16);
        dueEnds(c, "1 0 obj }(endobj) endobj", 16);
        // A text that is too long is told at its first byte, so that what it has inside stands behind the place.
        dueEnds(c, "1 0 obj (a endobj " + "x".repeat(200) + ") endobj", 17);
        dueEnds(c, "1 0 obj /" + "x".repeat(41) + "/endobj endobj", 57);
        dueEnds(c, "1 0 obj<<>>stream\nendobj " + "x".repeat(400) + "\nendstream endobj", 24);
        dueEnds(c, "1 0 obj<<>>stream\nab endobj cd", 27);
        dueEnds(c, "1 0 obj [[[[[[[[[endobj", 23);
        dueEnds(c, "1 0 obj<</A 5 6/endobj", 22);
        dueEnds(c, "1 0 obj 1000000000/endobj", 25);
        dueEnds(c, "1 0 obj<<>>stream endobj\nendstream endobj", 24);
    }

    /** "(before it and behind it no regular byte)". */
    private static void goesOnByWholeWords(Checks c) {
        dueEnds(c, "1 0 obj } xendobj endobjx endobj z", 32);
        dueEnds(c, "1 0 obj }endobj endobj", 15);
        dueEnds(c, "1 0 obj }(endobj)endobj", 16);
        dueEnds(c, "1 0 obj } endob endobj", 22);
        dueEnds(c, "1 0 obj xendobj endobj", 22);
        dueEnds(c, "1 0 obj } endobj\u00ff", 16);
        dueEnds(c, "1 0 obj }\u00ffendobj z", 16);
    }

    /** "or at the tape's end". */
    private static void goesOnAtTheEnd(Checks c) {
        dueEnds(c, "1 0 obj } 2 0 obj 5 endob", 25);
        c.due("nothing behind it", c.x.told(2), 1);
        c.due("nothing stray", c.x.told(4), 0);
        dueEnds(c, "1 0 obj } endobj", 16);
        dueEnds(c, "1 0 obj } endobjx", 17);
        dueEnds(c, "1 0 obj }", 9);
    }

    /** "An object with a fault has no value, its values are no more." */
    private static void valuesAreNoMore(Checks c) {
        c.due("five objects", c.read("1 0 obj /a endobj 2 0 obj [/b(c)} endobj 3 0 obj (d) endobj 4 0 obj<</e 1>>stream x endobj 5 0 obj[1 2]endobj"), 5);
        c.due("values", c.x.told(3), 5);
        int[] values = {0, -1, 1, -1, 2};
        for (int i = 0; i < values.length; i++) {
            c.due("value of object " + i, c.x.object(i, 2), values[i]);
        }
        c.dueText("bytes of the first", c.bytes(0), "a");
        c.dueText("bytes of the third", c.bytes(1), "d");
        c.due("values of the fifth", c.x.value(2, 1), 2);
        c.due("one with a fault can't be found", c.x.find(2, 0), -1);
        c.dueIndex("value(5, 0)", () -> c.x.value(5, 0));
        c.due("all with faults", c.read("1 0 obj [1 2 3 } endobj 2 0 obj [(a)(b) { endobj"), 2);
        c.due("no values at all", c.x.told(3), 0);
        c.dueIndex("value(0, 0)", () -> c.x.value(0, 0));
    }

    /** "what is noted (5; of one with a fault what was noted before that)". */
    private static void noted(Checks c) {
        c.read("1 0 obj --1 endobj 2 0 obj 1 endobj 3 0 obj [<7> } endobj 4 0 obj [} <7> endobj 5 0 obj[<</A 1/A --2>><7>]endobj");
        int[] due = {1, 0, 1, 0, 3};
        for (int i = 0; i < due.length; i++) {
            c.due("noted of object " + i, c.x.object(i, 5), due[i]);
        }
        c.dueFault("1 0 obj<</A 1/A --2>>stream\nabc\nendstream", 1, 41, 7);
        c.dueFault("1 0 obj<</A 1/A --2>>stream\nabc", 8, 21, 3);
    }
}
