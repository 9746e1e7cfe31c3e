/** Promises 4 (read), 5 (object) and 6 (find): where objects begin and end, what is stray, and where reading goes on. */
public final class ObjectsTest {
    public static void main(String[] args) {
        Checks c = new Checks();
        heads(c);
        entries(c);
        white(c);
        goingOn(c);
        twenty(c);
        finding(c);
        again(c);
        c.end();
    }

    private static void heads(Checks c) {
        c.dueCounts("", 0, 0);
        c.dueCounts("1 0 ob", 0, 4);
        c.dueCounts("1 0 objx 5 endobj", 0, 13);
        c.dueCounts("1 0obj 5 endobj", 0, 12);
        c.dueCounts("1 -0 obj 5", 0, 7);
        c.dueCounts("+1 0 obj 5 endobj", 1, 1);
        c.due("+1 0 obj begins", c.x.object(0, 6), 1);
        c.dueCounts("7 1 0 obj 5 endobj", 1, 1);
        c.due("7 1 0 obj number", c.x.object(0, 0), 1);
        c.dueCounts("x5 0 obj 5 endobj", 1, 1);
        c.due("x5 0 obj number", c.x.object(0, 0), 5);
        c.dueCounts("123456789 987654321 obj 5 endobj", 1, 0);
        c.due("nine figures of a number", c.x.object(0, 0), 123456789);
        c.due("nine figures of a generation", c.x.object(0, 1), 987654321);
        c.dueCounts("1234567890 0 obj 5 endobj", 1, 1);
        c.due("ten figures: the first is stray", c.x.object(0, 0), 234567890);
        c.dueCounts("1 1234567890 obj 5 endobj", 0, 21);
        c.dueCounts("1 0 obj(a)endobj", 1, 0);
        c.dueCounts("1 0 obj/a endobj", 1, 0);
        c.dueCounts("1 0 obj[]endobj(", 1, 1);
        c.dueCounts("1%x\n0%y\robj 5 endobj", 1, 0);
        c.dueCounts("1\0000\t\f\r\nobj 5 endobj", 1, 0);
        c.dueCounts("1 0 obj 5 endobj 0012 0003 obj 6 endobj", 2, 0);
        c.due("zeros before a number", c.x.object(1, 0), 12);
        c.due("zeros before a generation", c.x.object(1, 1), 3);
    }

    private static void entries(Checks c) {
        c.due("read()", c.read("%c\n 12 3 obj --5 endobj 4 5 obj [] 6 endobj q"), 2);
        int[] first = {12, 3, 0, 0, -1, 1, 4, 23};
        int[] second = {4, 5, -1, 2, 35, 0, 24, 43};
        for (int what = 0; what < 8; what++) {
            c.due("object(0, " + what + ")", c.x.object(0, what), first[what]);
            c.due("object(1, " + what + ")", c.x.object(1, what), second[what]);
        }
        c.due("stray", c.x.told(4), 1);
        int[] noObject = {-1, 2, 20, Integer.MAX_VALUE, Integer.MIN_VALUE};
        for (int i : noObject) {
            c.dueIndex("object(" + i + ", 0)", () -> c.x.object(i, 0));
        }
        int[] noWhat = {-1, 8, Integer.MAX_VALUE, Integer.MIN_VALUE};
        for (int what : noWhat) {
            c.dueIndex("object(0, " + what + ")", () -> c.x.object(0, what));
        }
    }

    private static void white(Checks c) {
        c.dueCounts("%1 0 obj 5 endobj", 0, 0);
        c.dueCounts("a%1 0 obj 5 endobj\rb", 0, 2);
        c.dueCounts("a%b%c\nd", 0, 2);
        c.dueCounts("\0\t\n\f\r \u000b\u0008\u007f\u00ff", 0, 4);
        c.dueCounts("(1 0 obj 5 endobj)", 1, 2);
        c.dueCounts("1 0 obj%c\n5%c\nendobj%c", 1, 0);
        c.due("behind endobj", c.x.object(0, 7), 20);
    }

    private static void goingOn(Checks c) {
        c.due("behind a fault", c.read("1 0 obj ] xendobj endobjx /endobj 2 0 obj 5 endobj"), 2);
        c.due("before / and behind it", c.x.object(0, 7), 33);
        c.due("the next one", c.x.object(1, 6), 34);
        c.due("its value is the first", c.x.object(1, 2), 0);
        c.due("no endobj", c.read("1 0 obj ] 2 0 obj 5 "), 1);
        c.due("no endobj: ends at the end", c.x.object(0, 7), 20);
        c.due("endobj at the place", c.read("1 0 obj <</A endobj 2 0 obj 5 endobj"), 2);
        c.due("endobj at the place: fault", c.x.object(0, 3), 2);
        c.due("endobj at the place: ends", c.x.object(0, 7), 19);
        c.due("endobj before the place is none", c.read("1 0 obj [(endobj) } endobj"), 1);
        c.due("endobj before the place: ends", c.x.object(0, 7), 26);
        c.due("endobj in a string that is too long", c.read("1 0 obj ( endobj " + "x".repeat(200) + ") endobj"), 1);
        c.due("it ends in the string", c.x.object(0, 7), 16);
        c.due("the rest is stray", c.x.told(4), 207);
        c.due("endobj in a remark", c.read("1 0 obj }%endobj 2 0 obj 5 endobj"), 2);
        c.due("endobj at the tape's end", c.read("1 0 obj } endobj"), 1);
        c.due("endobj at the tape's end: ends", c.x.object(0, 7), 16);
    }

    private static void twenty(Checks c) {
        StringBuilder text = new StringBuilder();
        for (int i = 0; i < 22; i++) {
            text.append(i).append(i % 3 == 0 ? " 0 obj 5 6 endobj\n" : " 0 obj 5 endobj%x\n");
        }
        c.due("22 objects", c.read(text.toString()), 20);
        c.due("stray of 22 objects", c.x.told(4), 27);
        c.due("values of 20 objects", c.x.told(3), 13);
        c.due("the last one", c.x.object(19, 0), 19);
        c.dueIndex("object(20, 0)", () -> c.x.object(20, 0));
        c.due("the 21st can't be found", c.x.find(20, 0), -1);
    }

    private static void finding(Checks c) {
        c.read("1 0 obj 1 endobj 1 0 obj 2 endobj 1 1 obj 3 endobj 1 0 obj ] endobj 2 0 obj } endobj");
        c.due("the latest without a fault", c.x.find(1, 0), 1);
        c.due("another generation", c.x.find(1, 1), 2);
        c.due("with a fault", c.x.find(2, 0), -1);
        c.due("none such", c.x.find(1, 2), -1);
        c.due("below 0", c.x.find(-1, -1), -1);
        c.due("far above", c.x.find(Integer.MAX_VALUE, Integer.MIN_VALUE), -1);
    }

    private static void again(Checks c) {
        c.read("1 0 obj [1 2 3] endobj");
        c.due("read() again", c.x.read(), 1);
        c.due("values again", c.x.told(3), 4);
        c.due("the tape stays", c.x.told(0), 22);
        c.feed(" 1 0 obj /a endobj");
        c.due("read() with more", c.x.read(), 2);
        c.due("values with more", c.x.told(3), 5);
        c.due("the latest", c.x.find(1, 0), 1);
    }
}
