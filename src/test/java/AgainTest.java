/**
 * Promises 3, 4 and 14 on objects that have read and written other things before: "What was read before is gone", so that
 * every tape reads on them as it does on a new object.
 */
public final class AgainTest {
    /** With two whose object 9 tells its own Length: as the object is not read so far, what it was before must not tell it. */
    private static final String[] TAPES = {
        "",
        "x (1 y",
        "1 0 obj null endobj",
        "1 0 obj[true 5 -2.5 7 0 R/n(s)<4>[]<</k 1>>]endobj",
        "1 0 obj<</A 1/B 2/A null/B 3/Length 3>>stream\nabc\nendstream endobj 2 0 obj --5 endobj z",
        "1 0 obj<<>>stream\nabc endobj 2 0 obj [/x } endobj 3 0 obj /y endobj",
        "2 0 obj 3 endobj 1 0 obj<</Length 2 0 R>>stream\nabc\nendstream endobj",
        "1 0 obj<</Length 2 0 R>>stream\nabc\nendstream endobj",
        "9 0 obj<</A 1>>stream\nx\nendstream endobj",
        "9 0 obj<</C[3]/Length 9 0 R>>stream\nabc\nendstream endobj",
        "1 0 obj[" + "/".repeat(299) + "]endobj",
        "1 0 obj[" + "/".repeat(300) + "]endobj",
        "1 0 obj[" + ("(" + "s".repeat(200) + ")").repeat(5) + "]endobj",
        "7 0 obj 5 endobj ".repeat(22),
        "7 0 obj } endobj ".repeat(22),
        "1 0 obj [[[[[[[[[",
    };

    public static void main(String[] args) {
        Checks c = new Checks();
        for (String first : TAPES) {
            for (String second : TAPES) {
                again(c, first, second);
            }
            twice(c, first);
            unread(c, first);
        }
        c.end();
    }

    private static void again(Checks c, String first, String second) {
        String fresh = Answers.read(x -> Checks.feed(x, second));
        String used = Answers.read(x -> {
            Checks.feed(x, first);
            x.read();
            x.write(0, true, true);
            x.wipe();
            Checks.feed(x, second);
        });
        c.dueText("[" + second + "] behind [" + first + "]", used, fresh);
    }

    /** read() leaves the tape and OUT as they are, and answers the same again. */
    private static void twice(Checks c, String text) {
        String once = Answers.behind(x -> {
            Checks.feed(x, text);
            x.read();
            x.write(0, false, true);
        });
        String twice = Answers.behind(x -> {
            Checks.feed(x, text);
            x.read();
            x.read();
            x.write(0, false, true);
            x.read();
        });
        c.dueText("[" + text + "] read twice", twice, once);
    }

    /** feed(), wipe() and take() change the tape alone: what was read stays up to the next read(). */
    private static void unread(Checks c, String text) {
        Answers.Run read = x -> {
            Checks.feed(x, text);
            x.read();
        };
        String due = Answers.asRead(read);
        c.dueText("[" + text + "] and feed", Answers.asRead(x -> {
            read.on(x);
            x.feed(4, 0x5A5A5A20L);
        }), due);
        c.dueText("[" + text + "] and wipe", Answers.asRead(x -> {
            read.on(x);
            x.wipe();
        }), due);
        c.dueText("[" + text + "] and take", Answers.asRead(x -> {
            read.on(x);
            x.write(0, false, true);
            x.take();
        }), due);
    }
}
