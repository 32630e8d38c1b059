/** A test for each sentence of promises 40 to 43 that names an edge. */
public final class EdgeDecidingTest {
    private static final int MIN = Edges.MIN;
    private static final int MAX = Edges.MAX;
    private static final long HUGE = Edges.HUGE;
    private static final int[] NO_LEAST = {-1, 13, MIN, MAX};

    private EdgeDecidingTest() {
    }

    // ---- promise 40

    private static void decides(String text, int[] call, int due, long... row) {
        PaidForThinking x = Due.with(text);
        String what = text + ": least " + call[0] + ", " + call[1] + " or " + call[2];
        Due.is(what, x.decide(0, call[0], call[1], call[2]), due);
        Due.row(what, x, row);
    }

    @Says(promise = 40, value = "if the PART said of EVENT 0 is at least (0 .. 12) so much")
    static void p40LeastNought() {
        decides("2*d*q-s", new int[] {0, 3, 0}, 3, 1, 40, 40);
        decides("2*d*q-s", new int[] {0, 0, 3}, 0, 1, 64, 64);
    }

    @Says(promise = 40, value = "if the PART said of EVENT 0 is at least (0 .. 12) so much")
    static void p40LeastAboveSteps() {
        decides("2*d*q-s", new int[] {5, 4, 3}, 3, 1, 40, 40);
        decides("2*d*q-s", new int[] {12, 4, 3}, 3, 1, 40, 40);
        PaidForThinking x = Due.with("2*d*q-s");
        x.table(2, 12);
        Due.is("12 of 12", x.decide(0, 12, 12, 0), 0);
        Due.row("12 of 12", x, 1, 1728, 1728);
    }

    @Says(promise = 40, value = "if the PART said of EVENT 0 is at least (0 .. 12) so much")
    static void p40JustAtLeast() {
        // (2, 2) comes by then, or by otherwise
        decides("(q=2)*9", new int[] {2, 4, 1}, 2, 0, 36, 0);
        decides("(q=2)*(1-e)", new int[] {2, 4, 1}, 2, 0, 4, 0);
        decides("(q=2)*(1-e)", new int[] {3, 4, 1}, 2, 0, 1, 0);
        // each is just what comes with it, if it is at least so much, and if it is not
        decides("2*d*q-s", new int[] {3, 3, 1}, 1, 1, 40, 40);
        decides("2*d*q-s", new int[] {1, 1, 4}, 1, 1, 40, 40);
    }

    @Says(promise = 40, value = "the first SAYING with the greatest WORTH")
    static void p40OfEqualOnesTheFirst() {
        decides("7", new int[] {2, 3, 1}, 0, 0, 28, 28);
        decides("7", new int[] {2, 3, 0}, 0, 1, 28, 28);
        decides("q=3", new int[] {0, 2, 0}, 1, 0, 2, 0);
    }

    @Says(promise = 40, value = "the greatest WORTH of one that is just what comes with it (-1000000000 without any)")
    static void p40WithoutAny() {
        decides("2*d*q-s", new int[] {4, 3, 4}, 3, 0, 56, -1000000000);
        decides("7", new int[] {2, 1, 2}, 0, 0, 28, -1000000000);
    }

    @Says(promise = 40, value = "the greatest WORTH of one that is just what comes with it (-1000000000 without any)")
    static void p40BelowThat() {
        decides("8192*8192*31*(e-1)", new int[] {2, 4, 1}, 0, 0, -HUGE, -HUGE);
        decides("8192*8192*31*(e-1)", new int[] {0, 3, 0}, 0, 0, -3 * HUGE, -3 * HUGE);
    }

    @Says(promise = 40, value = "the greatest WORTH of one that is just what comes with it")
    static void p40OfTwoThatAre() {
        // (3, 1) by then and (1, 3) by otherwise
        decides("q=1", new int[] {2, 3, 1}, 1, 1, 1, 1);
        decides("(q=1)*(1-e)", new int[] {2, 3, 1}, 1, 1, 1, 1);
        decides("(q=3)*(1-e)+9*(q=4)*e", new int[] {2, 3, 1}, 0, 0, 27, 3);
    }

    @Says(promise = 40, value = "NONE: others.")
    static void p40NoPayOrThought() {
        Edges.refused(x -> {
            for (int p : Edges.NO_PAY) {
                Due.is("PAY " + p, x.decide(p, 2, 3, 1), -1);
            }
            for (int t : Edges.NO_SAYING) {
                Due.is("then " + t, x.decide(0, 2, t, 1), -1);
                Due.is("otherwise " + t, x.decide(0, 2, 1, t), -1);
            }
        });
    }

    @Says(promise = 40, value = "NONE: others.")
    static void p40LeastOutside() {
        Edges.refused(x -> {
            for (int least : NO_LEAST) {
                Due.is("least " + least, x.decide(0, least, 3, 1), -1);
            }
        });
    }

    // ---- promise 41

    private static void tosses(String text, int[] call, int due, long... row) {
        PaidForThinking x = Due.with(text);
        tosses(x, call, due, row);
    }

    private static void tosses(PaidForThinking x, int[] call, int due, long... row) {
        String what = "least " + call[0] + ", " + call[1] + " or " + call[2];
        Due.is(what, x.coin(0, call[0], call[1], call[2]), due);
        Due.row(what, x, row);
    }

    @Says(promise = 41,
        value = "One says two SAYINGS, a for what comes if it is decided the first way (by then), b for the other "
        + "way (by otherwise).")
    static void p41ThenAndOtherwise() {
        // EVENT 0 alone is paid for: 3 times by then, 1 time by otherwise
        tosses("(q=4)*(1-e)", new int[] {0, 4, 1}, 0, 160, 160);
        tosses("7*(1-e)", new int[] {0, 3, 1}, 0, 840, 840);
        tosses("7*(1-e)", new int[] {5, 3, 1}, 0, 280, 280);
    }

    @Says(promise = 41,
        value = "40 less 2 k times the WORTH of the SAYING of the way that a decides, and k times the WORTHS of both")
    static void p41OfBothWays() {
        // 32 by then and 40 by otherwise, 24 by (1, 3) that decides the other way:
        // (40 - k) 32 + 40 k is as much as (40 - k) 40 + 24 k from 14 on
        tosses("2*d*q-s", new int[] {2, 2, 3}, 14, 26 * 32 + 14 * 40, 1600);
    }

    @Says(promise = 41,
        value = "The least k with which no two SAYINGS have more than the truth for both ways (a then, b otherwise): it")
    static void p41JustAsMuch() {
        tosses("7", new int[] {2, 1, 3}, 0, 1120, 1120);
        tosses("0", new int[] {2, 1, 3}, 0, 0, 0);
    }

    @Says(promise = 41, value = "but in k of 20 cases (0 .. 20) by a coin")
    static void p41NoCoin() {
        tosses("2*d*q-s", new int[] {2, 3, 1}, 0, 1600, 1600);
        tosses("7", new int[] {2, 0, 4}, 0, 1120, 1120);
    }

    @Says(promise = 41, value = "but in k of 20 cases (0 .. 20) by a coin")
    static void p41Some() {
        tosses("2*d*q-s", new int[] {2, 2, 4}, 18, 22 * 32 + 18 * 64, 2560);
        tosses("2*d*q-s", new int[] {1, 0, 3}, 16, 24 * 40 + 16 * 64, 2240);
        PaidForThinking x = Due.with("2*d*q-s");
        x.table(3, 5);
        tosses(x, new int[] {1, 8, 0}, 19, 3320, 5000);
    }

    @Says(promise = 41, value = "but in k of 20 cases (0 .. 20) by a coin")
    static void p41AllOfThem() {
        PaidForThinking x = Due.with("q*4-q*q/2");
        x.table(2, 5);
        tosses(x, new int[] {2, 0, 3}, 20, 1520, 1600);
    }

    @Says(promise = 41, value = "-2: none")
    static void p41None() {
        PaidForThinking x = Due.with("q");
        x.mean(0, 1, 1);
        Due.is("not by truth", x.coin(0, 2, 3, 1), -2);
        Due.is("nor the other way round", x.coin(0, 2, 1, 3), -2);
        Due.row("the ROW stays", x, 5, 2);
    }

    @Says(promise = 41, value = "-2: none")
    static void p41With21ItWouldDo() {
        // (1, 3), that decides the other way, has 2 more for (2, 2) than the truth, (4, 0) for itself 32 more
        PaidForThinking x = Due.with("2*d*q-s+5*(q=1)*(1-e)");
        Due.is("20 do not do", x.coin(0, 2, 2, 4), -2);
        Due.row("no ROW", x);
    }

    @Says(promise = 41, value = "the first way, if its PART of EVENT 0 is at least so much")
    static void p41LeastNought() {
        // always the first way: b is paid for with the coin alone
        tosses("2*d*q-s", new int[] {0, 2, 4}, 0, 1280, 1280);
        tosses("2*d*q-s", new int[] {0, 0, 4}, 0, 2560, 2560);
    }

    @Says(promise = 41, value = "the first way, if its PART of EVENT 0 is at least so much")
    static void p41LeastAboveSteps() {
        tosses("2*d*q-s", new int[] {5, 2, 4}, 0, 2560, 2560);
        tosses("2*d*q-s", new int[] {12, 4, 2}, 0, 1280, 1280);
        tosses("2*d*q-s-100", new int[] {5, 2, 4}, 0, 2560 - 16000, 2560 - 16000);
        PaidForThinking x = Due.with("2*d*q-s");
        x.table(2, 12);
        tosses(x, new int[] {12, 12, 6}, 0, 40 * 1728, 40 * 1728);
        tosses(x, new int[] {12, 0, 6}, 0, 40 * 864, 40 * 864);
    }

    @Says(promise = 41, value = "the first way, if its PART of EVENT 0 is at least so much")
    static void p41JustAtLeast() {
        // the truth (2, 2) decides the first way, or with 3 the other one
        tosses("2*d*q-s", new int[] {2, 2, 4}, 18, 22 * 32 + 18 * 64, 2560);
        tosses("2*d*q-s", new int[] {3, 2, 4}, 0, 2560, 2560);
    }

    @Says(promise = 41, value = "the ROW: what the truth has with it, the most any have with k 0.")
    static void p41Below0AndNotAsInts() {
        tosses("2*d*q-s-100", new int[] {2, 2, 4}, 18, 22 * 32 + 18 * 64 - 16000, 2560 - 16000);
        tosses("8192*8192*31*(q=4)", new int[] {4, 4, 0}, 0, 160 * HUGE, 160 * HUGE);
    }

    @Says(promise = 41, value = "NONE: others.")
    static void p41NoPayOrThought() {
        Edges.refused(x -> {
            for (int p : Edges.NO_PAY) {
                Due.is("PAY " + p, x.coin(p, 2, 3, 1), -1);
            }
            for (int t : Edges.NO_SAYING) {
                Due.is("then " + t, x.coin(0, 2, t, 1), -1);
                Due.is("otherwise " + t, x.coin(0, 2, 1, t), -1);
            }
        });
    }

    @Says(promise = 41, value = "NONE: others.")
    static void p41LeastOutside() {
        Edges.refused(x -> {
            for (int least : NO_LEAST) {
                Due.is("least " + least, x.coin(0, least, 3, 1), -1);
            }
        });
    }

    // ---- promise 42

    private static void says(int events, int steps, int[] thought, String text, int due, long... row) {
        PaidForThinking x = Due.with(text);
        x.table(events, steps);
        int t = x.saying(thought[0], thought[1], thought[2], thought[3]);
        Due.is(text + " for " + t, x.says(0, t), due);
        Due.row(text + " for " + t, x, row);
    }

    @Says(promise = 42, value = "a number r (0 .. EVENTS less 1) is said")
    static void p42FirstAndLast() {
        says(2, 4, new int[] {4, 0, 0, 0}, "q", 0, 0, 0);
        says(2, 4, new int[] {0, 4, 0, 0}, "q", 1, 1, 1);
        says(4, 12, new int[] {12, 0, 0, 0}, "q", 0, 0, 0);
        says(4, 12, new int[] {0, 0, 0, 12}, "q", 3, 3, 3);
    }

    @Says(promise = 42, value = "the first r with the greatest WORTH for a THOUGHT")
    static void p42OfEqualOnesTheFirst() {
        says(2, 4, new int[] {2, 2, 0, 0}, "q", 0, 0, 0);
        says(4, 5, new int[] {0, 1, 2, 2}, "q", 2, 2, 2);
        says(4, 5, new int[] {1, 0, 1, 3}, "-q", 1, 3, 3);
        says(3, 4, new int[] {1, 1, 2, 0}, "7", 0, 1, 2);
    }

    @Says(promise = 42, value = "the first r up to which at least half of STEPS are")
    static void p42JustHalf() {
        says(3, 4, new int[] {2, 0, 2, 0}, "q", 0, 0, 0);
        says(3, 4, new int[] {1, 0, 3, 0}, "q", 2, 2, 2);
        says(3, 4, new int[] {1, 1, 2, 0}, "q", 2, 1, 2);
    }

    @Says(promise = 42, value = "the first r up to which at least half of STEPS are")
    static void p42HalfOfFive() {
        says(3, 5, new int[] {2, 0, 3, 0}, "q", 2, 2, 2);
        says(3, 5, new int[] {2, 1, 2, 0}, "q", 0, 1, 0);
        says(3, 5, new int[] {3, 0, 2, 0}, "q", 0, 0, 0);
        says(2, 1, new int[] {1, 0, 0, 0}, "q", 0, 0, 0);
        says(2, 1, new int[] {0, 1, 0, 0}, "q", 1, 1, 1);
        says(4, 1, new int[] {0, 1, 0, 0}, "q", 1, 1, 1);
        says(4, 1, new int[] {0, 0, 1, 0}, "q", 2, 2, 2);
        says(4, 1, new int[] {0, 0, 0, 1}, "q", 3, 3, 3);
    }

    @Says(promise = 42, value = "its mode (the first greatest PART)")
    static void p42TheFirstGreatestPart() {
        says(4, 4, new int[] {1, 1, 1, 1}, "q", 0, 1, 0);
        says(4, 5, new int[] {1, 2, 2, 0}, "q", 1, 1, 1);
        says(4, 5, new int[] {1, 1, 1, 2}, "q", 3, 2, 3);
    }

    @Says(promise = 42, value = "NONE: others.")
    static void p42Others() {
        Edges.refused(x -> {
            for (int p : Edges.NO_PAY) {
                Due.is("PAY " + p, x.says(p, 0), -1);
            }
            for (int t : Edges.NO_SAYING) {
                Due.is("THOUGHT " + t, x.says(0, t), -1);
            }
        });
    }

    // ---- promise 43

    private static void middle(int events, int steps, int[] thought, int[] times, int due, long... row) {
        PaidForThinking x = new PaidForThinking();
        x.table(events, steps);
        int t = x.saying(thought[0], thought[1], thought[2], thought[3]);
        Due.is(times[0] + " and " + times[1], x.middle(t, times[0], times[1]), due);
        Due.row(times[0] + " and " + times[1], x, row);
    }

    @Says(promise = 43, value = "(a, b 0 .. 9)")
    static void p43Nought() {
        middle(3, 4, new int[] {1, 1, 2, 0}, new int[] {0, 0}, 0, 0, 3);
        middle(3, 4, new int[] {1, 1, 2, 0}, new int[] {0, 1}, 0, 0, 1);
        middle(3, 4, new int[] {1, 1, 2, 0}, new int[] {1, 0}, 2, 0, 1);
    }

    @Says(promise = 43, value = "(a, b 0 .. 9)")
    static void p43Nine() {
        middle(3, 4, new int[] {1, 1, 2, 0}, new int[] {9, 9}, 1, 27, 2);
        middle(3, 4, new int[] {1, 1, 2, 0}, new int[] {0, 9}, 0, 0, 1);
        middle(3, 4, new int[] {1, 1, 2, 0}, new int[] {9, 0}, 2, 0, 1);
        middle(4, 12, new int[] {3, 3, 3, 3}, new int[] {9, 9}, 1, 108, 2);
    }

    @Says(promise = 43, value = "|r less EVENT| times a, if r is less, times b, if it is more")
    static void p43LessOrMore() {
        middle(3, 4, new int[] {1, 1, 2, 0}, new int[] {2, 1}, 2, 3, 1);
        middle(3, 4, new int[] {1, 1, 2, 0}, new int[] {1, 2}, 1, 4, 1);
        middle(2, 4, new int[] {3, 1, 0, 0}, new int[] {4, 1}, 1, 3, 1);
    }

    @Says(promise = 43, value = "the first r with which one loses least for a THOUGHT")
    static void p43OfEqualOnesTheFirst() {
        middle(2, 4, new int[] {2, 2, 0, 0}, new int[] {1, 1}, 0, 2, 2);
        middle(2, 4, new int[] {3, 1, 0, 0}, new int[] {3, 1}, 0, 3, 2);
        middle(4, 12, new int[] {6, 0, 0, 6}, new int[] {1, 1}, 0, 18, 4);
        middle(4, 12, new int[] {0, 6, 6, 0}, new int[] {1, 1}, 1, 6, 2);
    }

    @Says(promise = 43, value = "the ROW: WORTH lost, how many such r.")
    static void p43NothingLostAndAll() {
        middle(2, 4, new int[] {4, 0, 0, 0}, new int[] {9, 9}, 0, 0, 1);
        middle(2, 4, new int[] {0, 4, 0, 0}, new int[] {9, 9}, 1, 0, 1);
        middle(2, 4, new int[] {0, 4, 0, 0}, new int[] {0, 0}, 0, 0, 2);
        middle(4, 12, new int[] {6, 0, 0, 6}, new int[] {9, 9}, 0, 162, 4);
    }

    @Says(promise = 43, value = "NONE: others.")
    static void p43Others() {
        Edges.refused(x -> {
            for (int t : Edges.NO_SAYING) {
                Due.is("THOUGHT " + t, x.middle(t, 1, 1), -1);
            }
            for (int times : new int[] {-1, 10, MIN, MAX}) {
                Due.is("a " + times, x.middle(0, times, 1), -1);
                Due.is("b " + times, x.middle(0, 1, times), -1);
            }
        });
    }

    public static void main(String[] args) {
        Edges.run(EdgeDecidingTest.class);
    }
}
