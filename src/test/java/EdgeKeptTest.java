import java.util.NoSuchElementException;

/** A test for each sentence of promises 53 to 56 that names an edge. */
public final class EdgeKeptTest {
    private static final int MIN = Edges.MIN;
    private static final int MAX = Edges.MAX;
    private static final int[] NO_KEEPING = {-1, 3, 4, MIN, MAX};

    private EdgeKeptTest() {
    }

    // ---- promise 53

    @Says(promise = 53, value = "are kept under a number 0 .. 2: true.")
    static void p53FirstToLast() {
        PaidForThinking x = new PaidForThinking();
        for (int i = 0; i < 3; i++) {
            x.turn(0, i);
            Due.is("kept", x.keep(i), true);
        }
        x.turn(0, 9);
        for (int i = 0; i < 3; i++) {
            Due.is("again", x.again(i), true);
            Due.is("each its own", x.turn(0, 9), i);
        }
    }

    @Says(promise = 53, value = "TURN, PEOPLE, THE BOOK, WORDS are kept")
    static void p53KeptTwice() {
        PaidForThinking x = new PaidForThinking();
        x.person(1);
        x.keep(1);
        x.person(2);
        x.keep(1);
        x.go();
        Due.is("again", x.again(1), true);
        Due.is("the later one", x.count(4), 2);
    }

    @Says(promise = 53, value = "TURN, PEOPLE, THE BOOK, WORDS are kept")
    static void p53NothingAndAll() {
        PaidForThinking x = Due.with("7");
        x.keep(0);
        for (int i = 0; i < 6; i++) {
            x.person(i % 5);
            x.word(i, 0, i % 5);
        }
        for (int i = 0; i < 40; i++) {
            x.evening(i % 6, i % 5, i % 2);
        }
        x.turn(12, 0);
        x.keep(2);
        Due.is("nothing", x.again(0), true);
        Due.is("nobody", x.count(4), 0);
        Due.is("no EVENINGS", x.count(5), 0);
        Due.is("no WORDS", x.count(6), 0);
        Due.is("TURN", x.turn(12, 5), 144);
        Due.is("all", x.again(2), true);
        Due.is("six", x.count(4), 6);
        Due.is("40", x.count(5), 40);
        Due.is("all WORDS", x.count(6), 63);
        Due.is("TURN", x.turn(12, 5), 0);
        Due.is("the last EVENING of all", x.right(3, 1, 0), 2);
        x.rest(0);
        Due.row("THOUGHTS", x, 0, 1, 2, 3, 4, 0);
    }

    @Says(promise = 53, value = "Refused: others.")
    static void p53NoSuchNumber() {
        Edges.refused(x -> {
            for (int i : NO_KEEPING) {
                Due.is("keep(" + i + ")", x.keep(i), false);
            }
        });
    }

    // ---- promise 54

    @Says(promise = 54, value = "They are as they were kept under a number.")
    static void p54WhatIsChangedBehindIt() {
        PaidForThinking x = Due.with("t");
        x.person(3);
        x.evening(0, 3, 0);
        x.word(0, 3, 3);
        x.keep(0);
        for (int i = 0; i < 2; i++) {
            x.go();
            x.person(1);
            x.evening(0, 1, 1);
            x.evening(0, 1, 1);
            x.word(0, 0, 4);
            x.word(5, 1, 1);
            x.turn(3, -7);
            Due.is("t goes by it", x.gets(0, 3, 0), -7);
            Due.is("again", x.again(0), true);
            Due.is("t goes by what was", x.gets(0, 3, 0), 9);
            Due.is("one of PEOPLE", x.count(4), 1);
            Due.is("one EVENING", x.paid(0, 0), 1);
            Due.row("t at 3, and the most", x, 9, 16, 4);
            Due.is("one WORD", x.count(6), 1);
            Due.is("for 3", x.words(3), 1);
            Due.is("not for 1", x.words(1), 0);
        }
    }

    @Says(promise = 54, value = "They are as they were kept under a number.")
    static void p54EachOfThem() {
        PaidForThinking x = Due.with("q");
        x.person(3);
        x.person(1);
        x.evening(0, 3, 0);
        x.evening(1, 2, 1);
        x.word(2, 1, 2);
        x.keep(2);
        x.go();
        x.person(0);
        x.person(2);
        x.evening(1, 4, 1);
        x.evening(0, 4, 0);
        x.word(2, 0, 4);
        Due.is("again", x.again(2), true);
        x.rest(0);
        Due.row("THOUGHTS", x, 3, 1);
        x.paid(0, 0);
        Due.row("whose, what, and what came", x, 3, 4, 4);
        x.paid(0, 1);
        Due.row("whose, what, and what came", x, 2, 4, 0);
        Due.is("from 1", x.words(0), 0);
        Due.is("from 1", x.words(1), 4);
        Due.is("to 2", x.words(2), 4);
        Due.is("to 2", x.words(3), 0);
    }

    @Says(promise = 54, value = "They are as they were kept under a number.")
    static void p54NothingElseIs() {
        PaidForThinking x = Due.with("t", "q");
        x.make(2);
        x.keep(0);
        Due.tell(x, 0, "5");
        x.pay(1);
        x.turn(0, 50);
        x.make(2);
        x.make(3);
        x.mean(0, 0, 0);
        x.sign(0);
        Due.is("again", x.again(0), true);
        Due.is("PAYS as they are now", x.count(3), 13);
        Due.is("PAY 0 as it is now", x.gets(0, 0, 0), 5);
        Due.is("MADE as it is now", x.gets(2, 4, 0), 50);
        Due.row("the ROW as it is now", x, 5, 1);
        Due.is("THE TEXT as it is now", x.count(8), 4);
    }

    @Says(promise = 54, value = "Refused: nothing kept, table() was taken since.")
    static void p54NothingKept() {
        PaidForThinking x = new PaidForThinking();
        for (int i = 0; i < 3; i++) {
            Due.is("nothing kept", x.again(i), false);
        }
        Edges.refused(y -> {
            Due.is("nothing kept under 1", y.again(1), false);
            Due.is("nothing kept under 2", y.again(2), false);
        });
    }

    @Says(promise = 54, value = "Refused: nothing kept, table() was taken since.")
    static void p54NoSuchNumber() {
        Edges.refused(x -> {
            for (int i : NO_KEEPING) {
                Due.is("again(" + i + ")", x.again(i), false);
            }
        });
    }

    @Says(promise = 54, value = "Refused: nothing kept, table() was taken since.")
    static void p54TableWasTaken() {
        PaidForThinking x = Edges.filled();
        x.keep(1);
        x.keep(2);
        x.table(2, 4);
        x.person(4);
        x.turn(0, 9);
        for (int i = 0; i < 3; i++) {
            Due.is("table() was taken", x.again(i), false);
        }
        Due.is("nothing changes", x.count(4), 1);
        Due.is("nothing changes", x.turn(0, 9), 9);
        Due.is("kept since", x.keep(1), true);
        x.go();
        Due.is("not the older one", x.again(0), false);
        Due.is("not the older one", x.again(2), false);
        Due.is("kept since", x.again(1), true);
        Due.is("kept since", x.count(4), 1);
    }

    @Says(promise = 54, value = "table() was taken since.")
    static void p54ATableThatWasRefused() {
        PaidForThinking x = Edges.filled();
        x.table(5, 4);
        x.table(2, 13);
        Due.is("it is still kept", x.again(0), true);
        Due.is("it is still kept", x.count(4), 2);
    }

    // ---- promise 55

    private static void counted(PaidForThinking x, int... due) {
        for (int what = 0; what < 9; what++) {
            Due.is("count(" + what + ")", x.count(what), due[what]);
        }
    }

    @Says(promise = 55,
        value = "What 0: EVENTS, 1: STEPS, 2: SAYINGS, 3: PAYS there are (bits), 4: PEOPLE, 5: EVENINGS, 6: WORDS "
        + "told (bits), 7: numbers of the ROW, 8: signs of THE TEXT.")
    static void p55Least() {
        PaidForThinking x = new PaidForThinking();
        x.table(2, 1);
        counted(x, 2, 1, 2, 0, 0, 0, 0, 0, 0);
    }

    @Says(promise = 55,
        value = "What 0: EVENTS, 1: STEPS, 2: SAYINGS, 3: PAYS there are (bits), 4: PEOPLE, 5: EVENINGS, 6: WORDS "
        + "told (bits), 7: numbers of the ROW, 8: signs of THE TEXT.")
    static void p55Most() {
        PaidForThinking x = Due.with("7", "q", "e", "t");
        x.table(4, 12);
        for (int i = 0; i < 6; i++) {
            x.person(454);
            x.word(i, 12, 12);
        }
        for (int i = 0; i < 41; i++) {
            x.evening(5, 454, 3);
        }
        for (int i = 0; i < 21; i++) {
            x.sign(0);
        }
        x.best(0, 0);
        counted(x, 4, 12, 455, 15, 6, 40, 63, 10, 80);
        x.table(2, 12);
        x.back(1);
        Due.is("13 numbers", x.count(7), 13);
    }

    @Says(promise = 55, value = "3: PAYS there are (bits)")
    static void p55Bits() {
        for (int i = 0; i < 4; i++) {
            PaidForThinking x = new PaidForThinking();
            Due.tell(x, i, "q");
            x.word(i + 2, 0, 0);
            Due.is("PAY " + i, x.count(3), 1 << i);
            Due.is("WORD " + (i + 2), x.count(6), 4 << i);
        }
    }

    @Says(promise = 55, value = "NONE for another what.")
    static void p55AnotherWhat() {
        Edges.refused(x -> {
            for (int what : new int[] {-1, 9, 10, MIN, MAX}) {
                Due.is("count(" + what + ")", x.count(what), -1);
            }
        });
    }

    // ---- promise 56

    private static void none(PaidForThinking x, int i) {
        boolean threw = false;
        try {
            x.row(i);
        } catch (NoSuchElementException e) {
            threw = true;
        }
        Due.is("row(" + i + ") throws", threw, true);
    }

    @Says(promise = 56, value = "Number i of the ROW.")
    static void p56FirstAndLast() {
        PaidForThinking x = Due.with("q");
        x.table(2, 12);
        x.back(0);
        Due.is("the first", x.row(0), 144);
        Due.is("the last", x.row(12), 144);
        none(x, 13);
    }

    @Says(promise = 56, value = "NoSuchElementException: none such.")
    static void p56AnEmptyRow() {
        PaidForThinking x = Due.with("2*d*q-s");
        for (int i : new int[] {0, 1, -1, MIN, MAX}) {
            none(x, i);
        }
        x.mean(0, 0, 0);
        x.truly(0);
        for (int i : new int[] {0, 1, -1, MIN, MAX}) {
            none(x, i);
        }
    }

    @Says(promise = 56, value = "NoSuchElementException: none such.")
    static void p56OutsideOfIt() {
        PaidForThinking x = Due.with("7");
        x.best(0, 0);
        x.mean(0, 0, 0);
        for (int i : new int[] {-1, 2, 3, 4, 5, 15, 16, MIN, MAX}) {
            none(x, i);
        }
        Due.row("it stays", x, 7, 1);
        Edges.refused(y -> {
            none(y, -1);
            none(y, 4);
        });
    }

    public static void main(String[] args) {
        Edges.run(EdgeKeptTest.class);
    }
}
