import java.util.NoSuchElementException;

/** Promises 53 to 56: kept, counted, told. */
public final class KeptTest {
    private static final int MIN = Integer.MIN_VALUE;
    private static final int MAX = Integer.MAX_VALUE;
    private static final int[] NO_PLACE = {-1, 3, MIN, MAX};

    private KeptTest() {
    }

    private static PaidForThinking filled() {
        PaidForThinking x = Due.with("t", "2*d*q-s");
        x.turn(2, -50);
        x.person(3);
        x.person(1);
        x.evening(1, 4, 0);
        x.evening(0, 2, 1);
        x.word(1, 1, 3);
        return x;
    }

    private static void otherwise(PaidForThinking x) {
        x.turn(2, 9);
        x.turn(3, 1);
        x.forget();
        x.forget();
        x.evening(0, 0, 0);
        x.evening(0, 0, 0);
        x.evening(0, 0, 0);
        x.go();
        x.person(0);
        x.word(1, 0, 0);
        x.word(4, 0, 4);
        x.gets(0, 2, 0);
    }

    private static void isFilled(String what, PaidForThinking x) {
        Due.is(what + ": t goes by TURN", x.gets(0, 2, 0), -50);
        Due.is(what + ": PEOPLE", x.count(4), 2);
        Due.is(what + ": EVENINGS", x.count(5), 2);
        Due.is(what + ": WORDS", x.count(6), 2);
        Due.is(what + ": a WORD", x.words(3), 2);
        Due.is(what + ": a WORD", x.words(0), 0);
        Due.is(what + ": TURN", x.turn(2, -50), -50);
        Due.is(what + ": TURN", x.turn(3, 9), 9);
        Due.is(what + ": an EVENING", x.paid(1, 1), 1);
        Due.row(what + ": an EVENING", x, 16, 16, 4);
        Due.is(what + ": an EVENING", x.paid(1, 0), 1);
        Due.row(what + ": an EVENING", x, 8, 16, 0);
        Due.is(what + ": a THOUGHT", x.boast(1, 0), 3);
        Due.row(what + ": a THOUGHT", x, 180, 180, 0);
    }

    private static void promise53() {
        PaidForThinking x = filled();
        for (int i : NO_PLACE) {
            Due.is("53: refused", x.keep(i), false);
        }
        for (int i = 0; i < 3; i++) {
            Due.is("53: keep", x.keep(i), true);
        }
        isFilled("53: it stays", x);
        otherwise(x);
        Due.is("53: something else", x.keep(1), true);
        for (int i = 0; i < 3; i += 2) {
            Due.is("53: again", x.again(i), true);
            isFilled("53: kept", x);
            otherwise(x);
        }
        x.turn(3, 2);
        Due.is("53: the other one", x.again(1), true);
        Due.is("53: the other one", x.count(4), 1);
        Due.is("53: the other one", x.count(5), 0);
        Due.is("53: the other one", x.count(6), 18);
        Due.is("53: the other one", x.turn(3, 0), 1);
    }

    private static void promise54() {
        PaidForThinking x = filled();
        for (int i = 0; i < 3; i++) {
            Due.is("54: nothing kept", x.again(i), false);
        }
        x.keep(0);
        for (int i : NO_PLACE) {
            Due.is("54: no such number", x.again(i), false);
        }
        Due.is("54: nothing kept there", x.again(1), false);
        isFilled("54: refused ones change nothing", x);
        otherwise(x);
        Due.tell(x, 0, "5");
        Due.tell(x, 3, "6");
        x.sign(0);
        x.best(0, 0);
        Due.is("54: again", x.again(0), true);
        Due.is("54: PAYS are not kept", x.count(3), 11);
        Due.is("54: PAYS are not kept", x.gets(0, 0, 0), 5);
        Due.is("54: the ROW is not kept", x.count(7), 5);
        Due.is("54: THE TEXT is not kept", x.count(8), 4);
        Due.tell(x, 0, "t");
        isFilled("54: again", x);
        otherwise(x);
        Due.is("54: and again", x.again(0), true);
        isFilled("54: and again", x);
        x.evening(0, 3, 0);
        x.word(0, 0, 0);
        x.person(4);
        x.turn(2, 1);
        Due.is("54: what is changed behind it is not kept", x.again(0), true);
        isFilled("54: what is changed behind it is not kept", x);
        Due.is("54: table", x.table(5, 5), -1);
        Due.is("54: a table that was refused", x.again(0), true);
        x.table(2, 4);
        Due.is("54: table was taken", x.again(0), false);
        Due.is("54: table was taken", x.count(4), 0);
        x.person(1);
        Due.is("54: kept since", x.keep(2), true);
        x.go();
        Due.is("54: not the older one", x.again(0), false);
        Due.is("54: kept since", x.again(2), true);
        Due.is("54: kept since", x.count(4), 1);
    }

    private static void promise55() {
        PaidForThinking x = filled();
        x.best(0, 1);
        x.sign(7);
        x.sign(8);
        x.end(7);
        int[] due = {2, 4, 5, 3, 2, 2, 2, 1, 7};
        counted(x, due);
        Due.tell(x, 3, "q");
        x.pay(0);
        x.word(5, 4, 4);
        x.evening(0, 0, 0);
        x.person(0);
        x.best(1, 1);
        x.back(1);
        int[] later = {2, 4, 5, 10, 3, 3, 34, 5, 0};
        counted(x, later);
        x.table(4, 5);
        int[] last = {4, 5, 56, 10, 0, 0, 0, 5, 0};
        counted(x, last);
    }

    private static void counted(PaidForThinking x, int[] due) {
        for (int what = 0; what < due.length; what++) {
            Due.is("55: count(" + what + ")", x.count(what), due[what]);
        }
        int[] wrong = {-1, 9, 10, MIN, MAX};
        for (int what : wrong) {
            Due.is("55: another what", x.count(what), -1);
        }
    }

    private static void promise56() {
        PaidForThinking x = Due.with("7");
        int[] wrong = {-1, 0, 1, MIN, MAX};
        for (int i : wrong) {
            Due.is("56: none such", throwsAt(x, i), true);
        }
        x.best(0, 0);
        for (int i = 0; i < 5; i++) {
            Due.is("56: a number", x.row(i), i);
        }
        int[] behind = {-1, 5, 6, 15, 16, 17, MIN, MAX};
        for (int i : behind) {
            Due.is("56: none such", throwsAt(x, i), true);
        }
        x.mean(0, 0, 0);
        Due.is("56: another row", x.row(0), 7);
        Due.is("56: shorter", throwsAt(x, 2), true);
        x.mean(0, 9, 0);
        Due.is("56: it stays", x.row(0), 7);
        x.table(3, 3);
        Due.is("56: with another table too", x.row(0), 7);
        x.go();
        x.pay(0);
        Due.is("56: without the PAY too", x.row(0), 7);
    }

    private static boolean throwsAt(PaidForThinking x, int i) {
        try {
            x.row(i);
        } catch (NoSuchElementException e) {
            return true;
        }
        return false;
    }

    public static void main(String[] args) {
        promise53();
        promise54();
        promise55();
        promise56();
        Due.end("KeptTest");
    }
}
