/** A test for each sentence of promises 44 to 52 that names an edge. */
public final class EdgeBookTest {
    private static final int MIN = Edges.MIN;
    private static final int MAX = Edges.MAX;

    private EdgeBookTest() {
    }

    /** PEOPLE 0, 1, 2, and EVENINGS: who, SAYING, EVENT. */
    private static PaidForThinking book(String text, int[]... evenings) {
        PaidForThinking x = Due.with(text);
        for (int i = 0; i < 3; i++) {
            x.person(i);
        }
        for (int[] e : evenings) {
            x.evening(e[0], e[1], e[2]);
        }
        Due.is("EVENINGS", x.count(5), evenings.length);
        return x;
    }

    private static int[] on(int who, int saying, int event) {
        return new int[] {who, saying, event};
    }

    // ---- promise 44

    @Says(promise = 44, value = "A WORD (0 .. 5) is said")
    static void p44FirstAndLastWord() {
        PaidForThinking x = new PaidForThinking();
        Due.is("WORD 0", x.word(0, 1, 2), true);
        Due.is("WORD 5", x.word(5, 1, 2), true);
        Due.is("these two", x.count(6), 33);
    }

    @Says(promise = 44, value = "for PARTS of EVENT 0 from .. to (0 .. STEPS): true.")
    static void p44From0ToSteps() {
        PaidForThinking x = new PaidForThinking();
        Due.is("0 to 4", x.word(0, 0, 4), true);
        Due.is("0 to 0", x.word(1, 0, 0), true);
        Due.is("4 to 4", x.word(2, 4, 4), true);
        int[] due = {3, 1, 1, 1, 5};
        for (int s = 0; s < 5; s++) {
            Due.is("said for " + s, x.words(s), due[s]);
        }
        x.table(2, 12);
        Due.is("12 to 12", x.word(0, 12, 12), true);
        x.table(2, 1);
        Due.is("0 to 1", x.word(0, 0, 1), true);
    }

    @Says(promise = 44, value = "for PARTS of EVENT 0 from .. to (0 .. STEPS): true.")
    static void p44ToldAgain() {
        PaidForThinking x = new PaidForThinking();
        x.word(0, 0, 4);
        Due.is("told again", x.word(0, 2, 2), true);
        Due.is("said for 2", x.words(2), 1);
        Due.is("not for 1 any more", x.words(1), 0);
        Due.is("not for 3 any more", x.words(3), 0);
    }

    @Says(promise = 44, value = "Refused: others.")
    static void p44NoWord() {
        Edges.refused(x -> {
            for (int i : new int[] {-1, 6, MIN, MAX}) {
                Due.is("WORD " + i, x.word(i, 0, 0), false);
            }
        });
    }

    @Says(promise = 44, value = "Refused: others.")
    static void p44PartsOutside() {
        Edges.refused(x -> {
            int[][] wrong = {{-1, 2}, {-1, -1}, {2, 5}, {5, 5}, {MIN, 2}, {2, MAX}, {MIN, MIN}, {MAX, MAX}, {MIN, MAX}};
            for (int[] w : wrong) {
                Due.is(w[0] + " to " + w[1], x.word(1, w[0], w[1]), false);
                Due.is(w[0] + " to " + w[1], x.word(5, w[0], w[1]), false);
            }
        });
    }

    @Says(promise = 44, value = "Refused: others.")
    static void p44ToBelowFrom() {
        Edges.refused(x -> {
            Due.is("3 to 2", x.word(1, 3, 2), false);
            Due.is("4 to 0", x.word(5, 4, 0), false);
            Due.is("far", x.word(5, MAX, MIN), false);
        });
    }

    // ---- promise 45

    @Says(promise = 45, value = "WORDS (bits) that would be said for a SAYING.")
    static void p45NoneToAll() {
        PaidForThinking x = new PaidForThinking();
        for (int s = 0; s < 5; s++) {
            Due.is("none are told", x.words(s), 0);
        }
        for (int i = 0; i < 6; i++) {
            x.word(i, 2, 3);
        }
        Due.is("all", x.words(2), 63);
        Due.is("all", x.words(3), 63);
        Due.is("none", x.words(1), 0);
        Due.is("none", x.words(4), 0);
    }

    @Says(promise = 45, value = "NONE: none such.")
    static void p45NoneSuch() {
        Edges.refused(x -> {
            for (int s : Edges.NO_SAYING) {
                Due.is("SAYING " + s, x.words(s), -1);
            }
        });
        PaidForThinking x = new PaidForThinking();
        x.table(4, 12);
        Due.is("SAYING 454", x.words(454), 0);
        Due.is("SAYING 455", x.words(455), -1);
    }

    // ---- promise 46

    @Says(promise = 46, value = "An EVENING more: how many.")
    static void p46FirstAndLast() {
        PaidForThinking x = book("7");
        Due.is("first of all", x.evening(0, 0, 0), 1);
        Due.is("last of all", x.evening(2, 4, 1), 2);
        Due.is("two", x.count(5), 2);
    }

    @Says(promise = 46, value = "Refused: others, 40.")
    static void p46Forty() {
        PaidForThinking x = book("q");
        for (int i = 1; i <= 40; i++) {
            Due.is("one more", x.evening(i % 3, 1, 0), i);
        }
        Due.is("41", x.evening(0, 4, 0), -1);
        Due.is("41", x.evening(2, 4, 0), -1);
        Due.is("40 still", x.count(5), 40);
        Due.is("of the first", x.paid(0, 0), 13);
        Due.row("of the first", x, 13, 52, 4);
        Due.is("of the second", x.paid(0, 1), 14);
        Due.row("of the second", x, 14, 56, 4);
        Due.is("of the third", x.paid(0, 2), 13);
        Due.row("of the third", x, 13, 52, 4);
        Due.is("one less", x.forget(), 39);
        Due.is("40 again", x.evening(0, 4, 0), 40);
        Due.is("41", x.evening(0, 4, 0), -1);
    }

    @Says(promise = 46, value = "Refused: others, 40.")
    static void p46Nobody() {
        Edges.refused(x -> {
            for (int who : Edges.NOBODY) {
                Due.is("who " + who, x.evening(who, 0, 0), -1);
            }
        });
        Due.is("no PEOPLE", new PaidForThinking().evening(0, 0, 0), -1);
    }

    @Says(promise = 46, value = "Refused: others, 40.")
    static void p46NoSayingOrEvent() {
        Edges.refused(x -> {
            for (int s : Edges.NO_SAYING) {
                Due.is("SAYING " + s, x.evening(0, s, 0), -1);
            }
            for (int e : Edges.NO_EVENT) {
                Due.is("EVENT " + e, x.evening(0, 0, e), -1);
            }
        });
    }

    // ---- promise 47

    @Says(promise = 47, value = "The latest EVENING goes: how many there are.")
    static void p47TheLatest() {
        PaidForThinking x = book("q", on(0, 3, 0), on(1, 2, 0), on(0, 4, 0));
        Due.is("two are left", x.forget(), 2);
        Due.is("of the first", x.paid(0, 0), 1);
        Due.row("of the first", x, 3, 4, 4);
        Due.is("of the second", x.paid(0, 1), 1);
        Due.is("one is left", x.forget(), 1);
        Due.is("of the second", x.paid(0, 1), 0);
        Due.is("none is left", x.forget(), 0);
        Due.is("of the first", x.paid(0, 0), 0);
    }

    @Says(promise = 47, value = "Refused: none.")
    static void p47None() {
        PaidForThinking x = new PaidForThinking();
        Due.is("none yet", x.forget(), -1);
        x.person(0);
        Due.is("none yet", x.forget(), -1);
        x.evening(0, 0, 0);
        Due.is("one goes", x.forget(), 0);
        Due.is("none any more", x.forget(), -1);
        Due.is("none", x.count(5), 0);
        Due.is("the first again", x.evening(0, 0, 0), 1);
        x.go();
        Due.is("all are gone", x.forget(), -1);
        Edges.refused(() -> book("2*d*q-s"), y -> Due.is("none", y.forget(), -1));
    }

    // ---- promise 48

    @Says(promise = 48, value = "How many EVENINGS are its")
    static void p48NoneAreIts() {
        PaidForThinking x = book("q", on(0, 3, 0), on(0, 4, 0));
        Due.is("none", x.paid(0, 2), 0);
        Due.row("nothing, and nothing at best", x, 0, 0, 0);
        Due.is("two", x.paid(0, 0), 2);
        Due.row("two", x, 7, 8, 4);
    }

    @Says(promise = 48, value = "what the one SAYING said each time would have got at best, the first such SAYING.")
    static void p48TheFirstSuch() {
        PaidForThinking x = book("q", on(0, 0, 0), on(0, 0, 1));
        Due.is("both EVENTS", x.paid(0, 0), 2);
        Due.row("all are as good", x, 4, 4, 0);
        x.evening(0, 0, 0);
        x.paid(0, 0);
        Due.row("the last", x, 4, 8, 4);
        PaidForThinking y = book("-q", on(1, 4, 0), on(1, 4, 0));
        y.paid(0, 1);
        Due.row("below 0, the first", y, -8, 0, 0);
        PaidForThinking z = book("-1", on(1, 4, 0));
        z.paid(0, 1);
        Due.row("below 0 at best", z, -1, -1, 0);
    }

    @Says(promise = 48, value = "What one of PEOPLE got by a PAY in THE BOOK")
    static void p48NotAsInts() {
        PaidForThinking x = book("8192*8192*31*(q=4)", on(2, 4, 0), on(2, 4, 0), on(2, 4, 0));
        x.paid(0, 2);
        Due.row("three times that", x, 3 * Edges.HUGE, 3 * Edges.HUGE, 4);
    }

    @Says(promise = 48, value = "NONE: others.")
    static void p48Others() {
        Edges.refused(x -> {
            for (int p : Edges.NO_PAY) {
                Due.is("PAY " + p, x.paid(p, 0), -1);
            }
            for (int who : Edges.NOBODY) {
                Due.is("who " + who, x.paid(0, who), -1);
            }
        });
    }

    // ---- promise 49

    @Says(promise = 49, value = "(as a fraction; those without EVENINGS left out)")
    static void p49AsAFraction() {
        PaidForThinking x = book("q", on(0, 3, 0), on(0, 4, 0), on(1, 4, 0), on(1, 4, 0), on(1, 2, 0));
        Due.is("7 by 2 and 10 by 3", x.first(0), 0);
        Due.row("7 by 2", x, 7, 2);
        x.evening(1, 4, 0);
        Due.is("7 by 2 and 14 by 4", x.first(0), 0);
        Due.row("of equal ones the first", x, 7, 2);
        x.evening(1, 4, 0);
        Due.is("7 by 2 and 18 by 5", x.first(0), 1);
        Due.row("18 by 5", x, 18, 5);
    }

    @Says(promise = 49, value = "(as a fraction; those without EVENINGS left out)")
    static void p49ThoseWithoutEvenings() {
        PaidForThinking x = book("-q", on(1, 4, 0));
        Due.is("the only one", x.first(0), 1);
        Due.row("below 0", x, -4, 1);
        x.evening(2, 3, 0);
        Due.is("less below 0", x.first(0), 2);
        Due.row("less below 0", x, -3, 1);
        PaidForThinking y = book("q", on(2, 0, 0));
        Due.is("nothing got", y.first(0), 2);
        Due.row("0 by 1", y, 0, 1);
    }

    @Says(promise = 49, value = "of equal ones the first: it")
    static void p49OfEqualOnesTheFirst() {
        PaidForThinking x = book("7", on(2, 0, 0), on(1, 4, 0), on(1, 4, 1), on(0, 1, 1));
        Due.is("all are equal", x.first(0), 0);
        Due.row("all are equal", x, 7, 1);
    }

    @Says(promise = 49, value = "of equal ones the first: it")
    static void p49NotAsInts() {
        PaidForThinking x = book("8192*8192*31*(q=4)+q", on(0, 3, 0), on(1, 4, 0), on(1, 4, 0), on(1, 3, 0));
        Due.is("twice that by three", x.first(0), 1);
        Due.row("twice that by three", x, 2 * Edges.HUGE + 11, 3);
    }

    @Says(promise = 49, value = "the ROW: the fraction.")
    static void p49LowestTerms() {
        PaidForThinking x = book("-q", on(0, 3, 0), on(0, 3, 0), on(0, 2, 0), on(0, 2, 0));
        Due.is("10 by 4, below 0", x.first(0), 0);
        Due.row("10 by 4, below 0", x, -5, 2);
        PaidForThinking y = book("q", on(0, 0, 0), on(0, 0, 0));
        Due.is("0 by 2", y.first(0), 0);
        Due.row("0 by 2", y, 0, 1);
    }

    @Says(promise = 49, value = "-2: nobody has EVENINGS")
    static void p49NobodyHas() {
        PaidForThinking x = book("7");
        x.mean(0, 0, 0);
        Due.is("nobody has", x.first(0), -2);
        Due.row("the ROW stays", x, 7, 1);
        x.evening(2, 0, 0);
        Due.is("the last has", x.first(0), 2);
        x.forget();
        Due.is("nobody has any more", x.first(0), -2);
        x.go();
        Due.is("there is nobody", x.first(0), -2);
    }

    @Says(promise = 49, value = "NONE.")
    static void p49NoPay() {
        Edges.refused(x -> {
            for (int p : Edges.NO_PAY) {
                Due.is("PAY " + p, x.first(p), -1);
            }
        });
        Due.is("nobody has EVENINGS, either", new PaidForThinking().first(0), -1);
    }

    // ---- promise 50

    private static void right(PaidForThinking x, int[] call, int due, long came, long off) {
        String what = "right(" + call[0] + ", " + call[1] + ", " + call[2] + ")";
        Due.is(what, x.right(call[0], call[1], call[2]), due);
        Due.row(what, x, came, off);
    }

    @Says(promise = 50, value = "of its EVENINGS with PART k (0 .. 12) of an EVENT said: how many")
    static void p50From0To12() {
        PaidForThinking x = Due.with("7");
        x.table(3, 12);
        x.person(0);
        x.evening(0, x.saying(12, 0, 0, 0), 0);
        x.evening(0, x.saying(12, 0, 0, 0), 1);
        right(x, new int[] {0, 0, 12}, 2, 1, 12);
        right(x, new int[] {0, 1, 0}, 2, 1, 12);
        right(x, new int[] {0, 2, 0}, 2, 0, 0);
        right(x, new int[] {0, 0, 0}, 0, 0, 12);
        right(x, new int[] {0, 2, 12}, 0, 0, 0);
    }

    @Says(promise = 50, value = "of its EVENINGS with PART k (0 .. 12) of an EVENT said: how many")
    static void p50AboveSteps() {
        PaidForThinking x = book("7", on(0, 4, 1));
        right(x, new int[] {0, 0, 4}, 1, 0, 4);
        right(x, new int[] {0, 0, 5}, 0, 0, 4);
        right(x, new int[] {0, 0, 12}, 0, 0, 4);
    }

    @Says(promise = 50,
        value = "the sum over all k of the size of (EVENINGS times k less STEPS times how often it came)")
    static void p50BothSigns() {
        // said 1 and it came: 1 less 4; said 3 and it did not: 3
        PaidForThinking x = book("7", on(0, 1, 0), on(0, 3, 1));
        right(x, new int[] {0, 0, 1}, 1, 1, 6);
        right(x, new int[] {0, 0, 3}, 1, 0, 6);
        right(x, new int[] {0, 1, 3}, 1, 0, 6);
        // said 2 twice, and it came once
        PaidForThinking y = book("7", on(1, 2, 0), on(1, 2, 1), on(0, 0, 0));
        right(y, new int[] {1, 0, 2}, 2, 1, 0);
    }

    @Says(promise = 50, value = "How right one was: of its EVENINGS")
    static void p50WithoutEvenings() {
        PaidForThinking x = book("7", on(0, 1, 0));
        right(x, new int[] {2, 0, 0}, 0, 0, 0);
        right(x, new int[] {2, 1, 12}, 0, 0, 0);
    }

    @Says(promise = 50, value = "NONE: others.")
    static void p50Others() {
        Edges.refused(x -> {
            for (int who : Edges.NOBODY) {
                Due.is("who " + who, x.right(who, 0, 2), -1);
            }
            for (int e : Edges.NO_EVENT) {
                Due.is("EVENT " + e, x.right(0, e, 2), -1);
            }
            for (int k : new int[] {-1, 13, MIN, MAX}) {
                Due.is("PART " + k, x.right(0, 0, k), -1);
            }
        });
    }

    // ---- promise 51

    private static void meant(PaidForThinking x, int from, int to, int due, long came, long lies) {
        String what = "the WORD for " + from + " to " + to;
        x.word(5, from, to);
        Due.is(what, x.meant(5), due);
        Due.row(what, x, came, lies);
    }

    @Says(promise = 51, value = "lies from .. to by STEPS (else 0; 0 without any)")
    static void p51JustFromAndTo() {
        // of four EVENINGS EVENT 0 came in three
        PaidForThinking x = book("7", on(0, 3, 0), on(1, 3, 0), on(2, 3, 0), on(0, 3, 1));
        meant(x, 3, 3, 4, 3, 1);
        meant(x, 0, 3, 4, 3, 1);
        meant(x, 3, 4, 4, 3, 1);
        x.evening(0, 2, 1);
        meant(x, 2, 3, 5, 3, 1);
        meant(x, 0, 2, 1, 0, 1);
        meant(x, 1, 2, 1, 0, 0);
    }

    @Says(promise = 51, value = "lies from .. to by STEPS (else 0; 0 without any)")
    static void p51JustBelowAndAbove() {
        PaidForThinking x = book("7", on(0, 3, 0), on(1, 3, 0), on(2, 3, 0), on(0, 3, 0));
        // 4 of 4 are more than 3 by 4
        meant(x, 3, 3, 4, 4, 0);
        meant(x, 3, 4, 4, 4, 1);
        x.evening(0, 3, 1);
        // 4 of 5 are more than 3 by 4 and less than 4 by 4
        meant(x, 3, 3, 5, 4, 0);
        meant(x, 3, 4, 5, 4, 1);
        x.evening(0, 3, 1);
        // 4 of 6 are less than 3 by 4
        meant(x, 3, 4, 6, 4, 0);
        meant(x, 2, 3, 6, 4, 1);
    }

    @Says(promise = 51, value = "lies from .. to by STEPS (else 0; 0 without any)")
    static void p51WithoutAny() {
        PaidForThinking x = book("7", on(0, 3, 0));
        meant(x, 0, 0, 0, 0, 0);
        meant(x, 4, 4, 0, 0, 0);
        x.go();
        meant(x, 0, 4, 0, 0, 0);
    }

    @Says(promise = 51, value = "EVENINGS of all whose SAYINGS it would be said for: how many")
    static void p51NoughtAndAllSteps() {
        PaidForThinking x = book("7", on(0, 0, 1), on(1, 0, 1), on(2, 4, 0));
        meant(x, 0, 0, 2, 0, 1);
        meant(x, 4, 4, 1, 1, 1);
        meant(x, 0, 4, 3, 1, 1);
        x.evening(1, 0, 0);
        meant(x, 0, 0, 3, 1, 0);
        x.evening(1, 4, 1);
        meant(x, 4, 4, 2, 1, 0);
    }

    @Says(promise = 51, value = "NONE: none such, a WORD that was not told.")
    static void p51NotTold() {
        Edges.refused(x -> {
            Due.is("WORD 2", x.meant(2), -1);
            Due.is("WORD 4", x.meant(4), -1);
            Due.is("WORD 5", x.meant(5), -1);
        });
    }

    @Says(promise = 51, value = "NONE: none such, a WORD that was not told.")
    static void p51NoneSuch() {
        Edges.refused(x -> {
            for (int i : new int[] {-1, 6, 31, 32, 33, MIN, MAX}) {
                Due.is("WORD " + i, x.meant(i), -1);
            }
        });
    }

    // ---- promise 52

    private static void thinks(PaidForThinking x, int who, int due, long... row) {
        x.mean(0, 0, 0);
        Due.is("thinks(0, " + who + ")", x.thinks(0, who), due);
        Due.row("thinks(0, " + who + ")", x, row);
    }

    @Says(promise = 52, value = "the ROW: the first, the last (none without).")
    static void p52NoneWithout() {
        thinks(book("2*d*q-s", on(0, 1, 0), on(0, 2, 0)), 0, 0);
        thinks(book("q", on(0, 1, 0), on(0, 4, 0), on(0, 0, 0)), 0, 1, 2, 2);
        thinks(book("q*(q>2)", on(0, 2, 0)), 0, 0);
    }

    @Says(promise = 52, value = "the ROW: the first, the last (none without).")
    static void p52FirstAndLast() {
        thinks(book("2*d*q-s", on(0, 0, 0), on(0, 0, 1)), 0, 1, 0, 0);
        thinks(book("2*d*q-s", on(0, 4, 0)), 0, 1, 4, 4);
        thinks(book("q", on(0, 4, 1)), 0, 3, 2, 4);
        thinks(book("7", on(0, 3, 1)), 0, 5, 0, 4);
    }

    @Says(promise = 52, value = "how many THOUGHTS it may be")
    static void p52WithoutEvenings() {
        thinks(book("2*d*q-s", on(0, 1, 0)), 2, 5, 0, 4);
    }

    @Says(promise = 52, value = "if one of PEOPLE says by a PAY always what is BEST")
    static void p52EachByItsOwn() {
        PaidForThinking x = book("2*d*q-s", on(0, 4, 0), on(1, 1, 0), on(2, 0, 0), on(1, 1, 1));
        thinks(x, 0, 1, 4, 4);
        thinks(x, 1, 1, 1, 1);
        thinks(x, 2, 1, 0, 0);
    }

    @Says(promise = 52, value = "NONE: others.")
    static void p52Others() {
        Edges.refused(x -> {
            for (int p : Edges.NO_PAY) {
                Due.is("PAY " + p, x.thinks(p, 0), -1);
            }
            for (int who : Edges.NOBODY) {
                Due.is("who " + who, x.thinks(0, who), -1);
            }
        });
    }

    public static void main(String[] args) {
        Edges.run(EdgeBookTest.class);
    }
}
