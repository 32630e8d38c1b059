import java.util.function.Supplier;

/** A test for each sentence of promises 20 to 25 that names an edge. */
public final class EdgeMadeTest {
    private static final int MIN = Edges.MIN;
    private static final int MAX = Edges.MAX;
    private static final Supplier<PaidForThinking> THREE = Edges::filledWithThree;
    private static final Supplier<PaidForThinking> FOUR = () -> {
        PaidForThinking x = Due.with("2*d*q-s", "t");
        x.table(4, 1);
        x.mean(0, 0, 0);
        return x;
    };

    private EdgeMadeTest() {
    }

    // ---- promise 20

    @Says(promise = 20, value = "D(s): G at s + 1 less G at s (at s STEPS: G there less G at s - 1)")
    static void p20AtNoughtAndAtSteps() {
        PaidForThinking x = new PaidForThinking();
        Edges.turnTo(x, 5, 1, 3, 3, 9, -9999);
        x.make(0);
        Due.is("PART 0, EVENT 1: 5 and 4 times -4", x.gets(0, 4, 1), -11);
        Due.is("PART 0, EVENT 0", x.gets(0, 4, 0), 5);
        Due.is("PART 4, EVENT 1", x.gets(0, 0, 1), 9);
        Due.is("PART 4, EVENT 0: 9 less 4 times 6", x.gets(0, 0, 0), -15);
        Due.is("PART 3, EVENT 1: 3 and 6", x.gets(0, 1, 1), 9);
        Due.is("PART 3, EVENT 0: 3 less 3 times 6", x.gets(0, 1, 0), -15);
    }

    @Says(promise = 20, value = "D(s): G at s + 1 less G at s (at s STEPS: G there less G at s - 1)")
    static void p20OneStep() {
        PaidForThinking x = new PaidForThinking();
        x.table(2, 1);
        Edges.turnTo(x, 7, -4, 9999);
        Due.is("one D is bent", x.make(3), 1);
        Edges.payIs("one STEP", x, 3, 7, -4, 7, -4);
    }

    @Says(promise = 20, value = "D(s): G at s + 1 less G at s (at s STEPS: G there less G at s - 1)")
    static void p20TwelveSteps() {
        PaidForThinking x = new PaidForThinking();
        x.table(2, 12);
        x.turn(12, 9999);
        x.turn(11, -9999);
        Due.is("made", x.make(0), 0);
        Due.is("PART 12, EVENT 1", x.gets(0, 0, 1), 9999);
        Due.is("PART 12, EVENT 0", x.gets(0, 0, 0), 9999 - 12 * 19998);
        Due.is("PART 11, EVENT 1", x.gets(0, 1, 1), 9999);
        Due.is("PART 11, EVENT 0", x.gets(0, 1, 0), -9999 - 11 * 19998);
    }

    private static void bent(int steps, int due, int... turn) {
        PaidForThinking x = new PaidForThinking();
        x.table(2, steps);
        Edges.turnTo(x, turn);
        Due.is("bent", x.make(0), due);
        Due.is("it is a PAY", x.count(3), 1);
    }

    @Says(promise = 20, value = "1, if TURN from 0 to STEPS is bent (no D less than the one ahead of it), else 0.")
    static void p20Bent() {
        bent(4, 1, 0, 1, 4, 9, 16);
        bent(4, 1, 9, 5, 1, 1, 1);
        bent(4, 1, 7, 7, 7, 7, 7);
        bent(4, 1, 8, 6, 4, 2, 0);
    }

    @Says(promise = 20, value = "1, if TURN from 0 to STEPS is bent (no D less than the one ahead of it), else 0.")
    static void p20NotBentAtOnePlace() {
        bent(4, 0, 0, 1, 1, 2, 3);
        bent(4, 0, 0, 0, 1, 1, 2);
        bent(4, 0, 0, 0, 0, 1, 1);
    }

    @Says(promise = 20, value = "1, if TURN from 0 to STEPS is bent (no D less than the one ahead of it), else 0.")
    static void p20FromNoughtToSteps() {
        bent(4, 1, 0, 1, 2, 3, 4, 4);
        bent(3, 1, 0, 1, 2, 3, 3);
        bent(2, 0, 0, 1, 1, 9);
        bent(1, 1, 9, 0, -9999);
        bent(12, 0, 0, 1, 4, 9, 16, 25, 36, 49, 64, 81, 100, 121, 141);
        bent(12, 1, 0, 1, 4, 9, 16, 25, 36, 49, 64, 81, 100, 121, 142);
    }

    @Says(promise = 20, value = "A PAY MADE of TURN, with two EVENTS")
    static void p20OneThatIsThereAlready() {
        PaidForThinking x = Due.with("q");
        x.make(0);
        Edges.payIs("instead of the text", x, 0, -12, 16);
        x.turn(0, 1);
        x.make(0);
        Edges.payIs("instead of the MADE one", x, 0, -12, 16, -12, 16, -6, 14, -2, 10, 1, 1);
    }

    @Says(promise = 20, value = "Refused: three EVENTS or more, no such PAY.")
    static void p20ThreeEventsOrMore() {
        Edges.refused(THREE, x -> Due.is("three", x.make(3), -1));
        Edges.refused(THREE, x -> Due.is("three", x.make(0), -1));
        Edges.refused(FOUR, x -> Due.is("four", x.make(3), -1));
    }

    @Says(promise = 20, value = "Refused: three EVENTS or more, no such PAY.")
    static void p20NoSuchPay() {
        Edges.refused(x -> {
            for (int i : Edges.NO_PLACE) {
                Due.is("PAY " + i, x.make(i), -1);
            }
        });
    }

    // ---- promise 21

    @Says(promise = 21, value = "for PARTS 0 .. STEPS of EVENT 1 the WORTH of what is BEST")
    static void p21OneStep() {
        PaidForThinking x = Due.with("5*q+e");
        x.table(2, 1);
        Due.is("bent", x.back(0), 1);
        Due.row("two numbers", x, 5, 6);
    }

    @Says(promise = 21, value = "for PARTS 0 .. STEPS of EVENT 1 the WORTH of what is BEST")
    static void p21TwelveSteps() {
        PaidForThinking x = Due.with("q-e");
        x.table(2, 12);
        Due.is("bent", x.back(0), 1);
        Due.row("13 numbers", x, 144, 131, 118, 105, 92, 79, 66, 77, 88, 99, 110, 121, 132);
    }

    @Says(promise = 21, value = "1, if that is bent (it always is, if made rightly")
    static void p21AlwaysBent() {
        String[] texts = {"7", "-7", "q", "-q", "x", "-s*(e+1)", "(q=2)*9-e", "8192*8192*31*(q-2)"};
        for (String text : texts) {
            PaidForThinking x = Due.with(text);
            Due.is(text, x.back(0), 1);
            Due.is(text, x.count(7), 5);
        }
    }

    @Says(promise = 21, value = "for PARTS 0 .. STEPS of EVENT 1 the WORTH of what is BEST")
    static void p21NotAsInts() {
        PaidForThinking x = Due.with("8192*8192*31*(q=4)*e");
        x.back(0);
        Due.row("more than an int", x, 0, Edges.HUGE, 2 * Edges.HUGE, 3 * Edges.HUGE, 4 * Edges.HUGE);
    }

    @Says(promise = 21, value = "NONE: three EVENTS or more, others.")
    static void p21ThreeEventsOrMore() {
        Edges.refused(THREE, x -> Due.is("three", x.back(0), -1));
        Edges.refused(FOUR, x -> Due.is("four", x.back(0), -1));
    }

    @Says(promise = 21, value = "NONE: three EVENTS or more, others.")
    static void p21NoPay() {
        Edges.refused(x -> {
            for (int p : Edges.NO_PAY) {
                Due.is("PAY " + p, x.back(p), -1);
            }
        });
    }

    // ---- promise 22

    @Says(promise = 22, value = "those behind it stay")
    static void p22ThoseBehindStay() {
        PaidForThinking x = Due.with("q");
        Due.is("taken", x.take(0), true);
        Edges.turnIs("four STEPS", x, 4, 3, 2, 3, 4);
        x.table(2, 1);
        Due.is("taken", x.take(0), true);
        Edges.turnIs("one STEP", x, 1, 1, 2, 3, 4);
        x.table(2, 12);
        Due.is("taken", x.take(0), true);
        Edges.turnIs("twelve STEPS: none stays", x, 12, 11, 10, 9, 8, 7, 6, 7, 8, 9, 10, 11, 12);
    }

    @Says(promise = 22, value = "each WORTH by STEPS, cut to 0")
    static void p22CutTo0() {
        PaidForThinking x = Due.with("e", "-e");
        x.take(0);
        Edges.turnIs("1, 2, 3 by 4 are 0", x, 0, 0, 0, 0, 1);
        x.take(1);
        Edges.turnIs("-1, -2, -3 by 4 are 0 too", x, 0, 0, 0, 0, -1);
    }

    private static void takes(String text, boolean due, int... turn) {
        PaidForThinking x = Due.with(text);
        Due.is(text, x.take(0), due);
        Edges.turnIs(text, x, turn);
    }

    @Says(promise = 22, value = "a number that is not -9999 .. 9999.")
    static void p22JustWithin() {
        takes("9999", true, 9999, 9999, 9999, 9999, 9999);
        takes("-9999", true, -9999, -9999, -9999, -9999, -9999);
        // -39997 by 4 and -39998 by 4 are -9999 too
        takes("-9999-(q<4)", true, -9999, -9999, -9999, -9999, -9999);
    }

    @Says(promise = 22, value = "a number that is not -9999 .. 9999.")
    static void p22JustOutside() {
        takes("9999+1", false);
        takes("-9999-1", false);
        takes("9999+(1-e)", false);
        takes("9999+e", false);
        takes("-9999-e", false);
        takes("-9999-(1-e)", false);
        // -40000 by 4 for (3, 1) and (1, 3), though both ends are -9999
        takes("-9999-(q<4)*4", false);
        takes("8192*8192*31", false);
        takes("8192*8192*32", false);
    }

    @Says(promise = 22, value = "a number that is not -9999 .. 9999.")
    static void p22NothingChanges() {
        Supplier<PaidForThinking> far = () -> {
            PaidForThinking x = Edges.filled();
            x.turn(0, 55);
            Due.tell(x, 2, "e*9999+e");
            Due.tell(x, 3, "e-(1-e)*9999-(1-e)");
            return x;
        };
        Edges.refused(far, x -> {
            Due.is("the last alone is too large", x.take(2), false);
            Due.is("the first alone is too small", x.take(3), false);
        });
    }

    @Says(promise = 22, value = "TURN becomes the table of a PAY by STEPS")
    static void p22PaysGoByIt() {
        PaidForThinking x = Due.with("9*t");
        Due.is("taken", x.take(0), true);
        // 9 times 16, 12, 8, 10, 16: the BEST of 144 and 0, and of those between
        Due.is("t is the new one", x.gets(0, 4, 0), 9 * 144);
        x.make(1);
        Due.is("it is MADE of the new one", x.gets(1, 4, 0), 144);
    }

    @Says(promise = 22, value = "Refused as back()")
    static void p22AsBack() {
        Edges.refused(THREE, x -> Due.is("three EVENTS", x.take(0), false));
        Edges.refused(FOUR, x -> Due.is("four EVENTS", x.take(0), false));
        Edges.refused(x -> {
            for (int p : Edges.NO_PAY) {
                Due.is("PAY " + p, x.take(p), false);
            }
        });
    }

    // ---- promise 23

    @Says(promise = 23, value = "as they are now")
    static void p23AsTheyAreNow() {
        PaidForThinking x = Due.with("t", "q");
        x.mix(2, 0, 1, 1, 1);
        Edges.payIs("t and q", x, 2, 0, 20, 2, 12, 6, 6, 12, 2, 20, 0);
        x.turn(1, 100);
        Due.tell(x, 1, "7");
        Edges.payIs("as they were", x, 2, 0, 20, 2, 12, 6, 6, 12, 2, 20, 0);
    }

    @Says(promise = 23, value = "(they may be the same, or this one)")
    static void p23TheSameOrThisOne() {
        PaidForThinking x = Due.with("q", "1");
        Due.is("twice the same", x.mix(2, 0, 0, 1, 1), true);
        Edges.payIs("q and q", x, 2, 0, 8, 2, 6, 4, 4);
        Due.is("this one and another", x.mix(0, 0, 1, 2, 3), true);
        Edges.payIs("2 q and 3", x, 0, 3, 11, 5, 9, 7, 7);
        Due.is("another and this one", x.mix(0, 1, 0, 2, 3), true);
        Edges.payIs("2 and 6 q and 9", x, 0, 11, 35, 17, 29, 23, 23);
        Due.is("this one twice", x.mix(2, 2, 2, 1, 1), true);
        Edges.payIs("four q", x, 2, 0, 16, 4, 12, 8, 8);
    }

    @Says(promise = 23, value = "(-9 .. 9 each; as ints)")
    static void p23TheEnds() {
        PaidForThinking x = Due.with("q", "e+1");
        Due.is("9 and -9", x.mix(2, 0, 1, 9, -9), true);
        Edges.payIs("9 and -9", x, 2, -9, 18, 0, 9);
        Due.is("-9 and 9", x.mix(3, 0, 1, -9, 9), true);
        Edges.payIs("-9 and 9", x, 3, 9, -18, 0, -9);
        Due.is("0 and 0", x.mix(3, 0, 1, 0, 0), true);
        Edges.payIs("0 and 0", x, 3, 0, 0, 0, 0);
    }

    @Says(promise = 23, value = "(-9 .. 9 each; as ints)")
    static void p23AsInts() {
        PaidForThinking x = Due.with("8192*8192*31", "8192*8192");
        x.mix(2, 0, 1, 1, 1);
        Edges.payIs("2 to the 31", x, 2, MIN, MIN);
        x.mix(2, 0, 0, 9, 9);
        Edges.payIs("18 times", x, 2, (int) (18 * Edges.HUGE));
        x.mix(3, 2, 1, -9, -9);
        Edges.payIs("-9 times", x, 3, (int) (-9L * (int) (18 * Edges.HUGE) - 9L * 8192 * 8192));
    }

    @Says(promise = 23, value = "Refused: others, no such PAYS.")
    static void p23TimesOutside() {
        Edges.refused(x -> {
            for (int times : new int[] {10, -10, MIN, MAX}) {
                Due.is("a " + times, x.mix(3, 0, 1, times, 1), false);
                Due.is("b " + times, x.mix(0, 0, 1, 1, times), false);
            }
        });
    }

    @Says(promise = 23, value = "Refused: others, no such PAYS.")
    static void p23NoSuchPays() {
        Edges.refused(x -> {
            for (int i : Edges.NO_PLACE) {
                Due.is("PAY " + i, x.mix(i, 0, 1, 1, 1), false);
            }
            for (int p : Edges.NO_PAY) {
                Due.is("of PAY " + p, x.mix(0, p, 1, 1, 1), false);
                Due.is("and PAY " + p, x.mix(0, 1, p, 1, 1), false);
            }
            Due.is("of this one, that is none", x.mix(3, 3, 3, 1, 1), false);
        });
    }

    // ---- promise 24

    @Says(promise = 24, value = "so that it is never below nought: 0 less that least")
    static void p24NeverBelowNought() {
        PaidForThinking x = Due.with("2*d*q-s", "9-e");
        Due.is("up", x.lift(2, 0), 16);
        Edges.payIs("up", x, 2, 0, 32, 14, 30, 24, 24, 30, 14, 32, 0);
        Due.is("down", x.lift(2, 1), -8);
        Edges.payIs("down", x, 2, 1, 0, 1, 0);
        Due.is("not at all", x.lift(3, 2), 0);
        Edges.payIs("not at all", x, 3, 1, 0, 1, 0);
    }

    @Says(promise = 24, value = "A PAY MADE of another one as it is now (or of this one)")
    static void p24OfThisOne() {
        PaidForThinking x = Due.with("t-5", "t+5");
        Due.is("of this one", x.lift(0, 0), 5);
        Edges.payIs("of this one", x, 0, 0, 16, 1, 9);
        Due.is("of another one", x.lift(2, 1), -5);
        x.turn(0, 100);
        Edges.payIs("as it was", x, 0, 0, 16, 1, 9);
        Edges.payIs("as it was", x, 2, 0, 16, 1, 9);
        Due.is("of a MADE one, by itself", x.lift(2, 2), 0);
        Edges.payIs("as it was", x, 2, 0, 16, 1, 9);
    }

    @Says(promise = 24, value = "0 less that least (as ints).")
    static void p24AsInts() {
        PaidForThinking x = Due.with("e*8192*8192*32+(1-e)");
        Due.is("0 less the least int is the least int", x.lift(1, 0), MIN);
        Edges.payIs("once around", x, 1, MIN + 1, 0, MIN + 1, 0);
    }

    @Says(promise = 24, value = "(NONE may be told so, too.)")
    static void p24NoneMayBeTold() {
        PaidForThinking x = Due.with("e+1");
        Due.is("0 less 1", x.lift(2, 0), -1);
        Due.is("it is MADE", x.count(3), 5);
        Edges.payIs("it is MADE", x, 2, 0, 1, 0, 1);
    }

    @Says(promise = 24, value = "NONE: others, no such PAY.")
    static void p24NoSuchPay() {
        Edges.refused(x -> {
            for (int i : Edges.NO_PLACE) {
                Due.is("PAY " + i, x.lift(i, 0), -1);
            }
            for (int p : Edges.NO_PAY) {
                Due.is("of PAY " + p, x.lift(0, p), -1);
            }
            Due.is("of this one, that is none", x.lift(3, 3), -1);
        });
    }

    // ---- promise 25

    @Says(promise = 25, value = "the greatest first, of equal ones by numbers: it")
    static void p25OfEqualOnesByNumbers() {
        PaidForThinking x = Due.with("7", "2*d*q-s");
        int[] due = {3, 2, 4, 1, 0};
        for (int k = 0; k < 5; k++) {
            Due.is("all are equal", x.rank(0, 3, k), k);
            Due.row("all are equal", x, 28);
            Due.is("two are equal", x.rank(1, 3, k), due[k]);
        }
    }

    @Says(promise = 25, value = "the ROW: its WORTH.")
    static void p25FirstAndLast() {
        PaidForThinking x = Due.with("2*d*q-s", "8192*8192*31*(q=4)");
        x.rank(0, 3, 0);
        Due.row("the first", x, 40);
        x.rank(0, 3, 4);
        Due.row("the last", x, -32);
        x.rank(1, 0, 0);
        Due.row("more than an int", x, 4 * Edges.HUGE);
        x.table(4, 12);
        Due.is("the last of three that are equal", x.rank(0, 454, 454), 90);
        Due.row("the last of 455", x, -12 * 144);
    }

    @Says(promise = 25, value = "-2: there are not so many")
    static void p25NotSoMany() {
        Edges.refused(x -> {
            Due.is("5", x.rank(0, 3, 5), -2);
            Due.is("far above", x.rank(0, 3, MAX), -2);
        });
        PaidForThinking x = Due.with("7");
        x.table(4, 12);
        Due.is("455", x.rank(0, 3, 455), -2);
    }

    @Says(promise = 25, value = "NONE: others (k below 0).")
    static void p25KBelow0() {
        Edges.refused(x -> {
            Due.is("-1", x.rank(0, 3, -1), -1);
            Due.is("far below", x.rank(0, 3, MIN), -1);
        });
    }

    @Says(promise = 25, value = "NONE: others (k below 0).")
    static void p25NoPayOrThought() {
        Edges.refused(x -> {
            for (int p : Edges.NO_PAY) {
                Due.is("PAY " + p, x.rank(p, 3, 0), -1);
                Due.is("PAY " + p + ", and not so many", x.rank(p, 3, 5), -1);
            }
            for (int t : Edges.NO_SAYING) {
                Due.is("THOUGHT " + t, x.rank(0, t, 0), -1);
                Due.is("THOUGHT " + t + ", and not so many", x.rank(0, t, 5), -1);
            }
        });
    }

    public static void main(String[] args) {
        Edges.run(EdgeMadeTest.class);
    }
}
