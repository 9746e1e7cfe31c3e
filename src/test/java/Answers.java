/**
 * All that an object answers: what can be asked without changing it, and then what its tape reads as. An object has 512
 * calls only, so that the run of calls that makes it is made anew for each hundred questions.
 */
final class Answers {
    /** A run of calls on a new object, 400 at most. */
    interface Run {
        void on(SyntaxRows x);
    }

    private static final int QUESTIONS = 100;

    private final Run run;
    private final StringBuilder text = new StringBuilder();
    private SyntaxRows x;
    private int asked = QUESTIONS;

    private Answers(Run run) {
        this.run = run;
    }

    static String behind(Run run) {
        return behindUnread(run) + "the tape reads as\n" + read(run);
    }

    /** Of what is read behind the run alone, without the tape and OUT. */
    static String read(Run run) {
        return asRead(x -> {
            run.on(x);
            x.read();
        });
    }

    /** Of what was read in the run alone, without the tape and OUT. */
    static String asRead(Run run) {
        Answers answers = new Answers(run);
        answers.askRead();
        return answers.text.toString();
    }

    /** Of OUT behind the run alone. */
    static String out(Run run) {
        Answers answers = new Answers(run);
        answers.askOut();
        return answers.text.toString();
    }

    private static String behindUnread(Run run) {
        Answers answers = new Answers(run);
        answers.note("told(0)", answers.next().told(0));
        answers.askOut();
        answers.askRead();
        return answers.text.toString();
    }

    private SyntaxRows next() {
        if (asked >= QUESTIONS) {
            x = new SyntaxRows();
            run.on(x);
            asked = 0;
        }
        asked++;
        return x;
    }

    private int note(String call, long answer) {
        text.append(call).append(" = ").append(answer).append('\n');
        return (int) answer;
    }

    private void askOut() {
        int size = note("told(1)", next().told(1));
        for (int i = -1; i <= size; i++) {
            note("out(" + i + ")", next().out(i));
        }
    }

    private void askRead() {
        int objects = note("told(2)", next().told(2));
        int values = note("told(3)", next().told(3));
        note("told(4)", next().told(4));
        for (int i = 0; i < objects; i++) {
            for (int what = 0; what < 8; what++) {
                note("object(" + i + ", " + what + ")", next().object(i, what));
            }
            int number = next().object(i, 0);
            int generation = next().object(i, 1);
            note("find(" + number + ", " + generation + ")", next().find(number, generation));
        }
        for (int v = 0; v < values; v++) {
            askValue(v);
        }
    }

    private void askValue(int v) {
        int kind = note("value(" + v + ", 0)", next().value(v, 0));
        int parts = note("value(" + v + ", 1)", next().value(v, 1));
        int bytes = note("value(" + v + ", 2)", next().value(v, 2));
        note("number(" + v + ")", next().number(v));
        for (int k = -1; k <= bytes; k++) {
            note("byteOf(" + v + ", " + k + ")", next().byteOf(v, k));
        }
        for (int k = -1; k <= parts; k++) {
            int part = note("child(" + v + ", " + k + ")", next().child(v, k));
            if (kind == SyntaxRows.DICTIONARY && part >= 0) {
                note("lookup(" + v + ", " + part + ")", next().lookup(v, part));
            }
        }
    }
}
