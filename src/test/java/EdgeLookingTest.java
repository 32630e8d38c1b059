/** A test for each sentence of promises 26 to 31 that names an edge. */
public final class EdgeLookingTest {
    private static final int MIN = Edges.MIN;
    private static final int MAX = Edges.MAX;
    private static final long HUGE = Edges.HUGE;
    private static final int[] NO_LIGHTS = {-1, 100, 101, MIN, MAX};
    private static final int[] NO_COST = {-1, 10000, MIN, MAX};

    private EdgeLookingTest() {
    }

    // ---- promise 26

    /** Two EVENTS, four STEPS. */
    private static void looks(String text, int thought, int lights, int cost, long more, long times) {
        PaidForThinking x = Due.with(text);
        looks(x, thought, lights, cost, more, times);
    }

    private static void looks(PaidForThinking x, int thought, int lights, int cost, long more, long times) {
        String what = "look(0, " + thought + ", " + lights + ", " + cost + ")";
        Due.is(what, x.look(0, thought, lights, cost), 0);
        Due.row(what, x, more, times);
    }

    @Says(promise = 26, value = "which costs so much (0 .. 9999)")
    static void p26NoCost() {
        looks("q", 2, 50, 0, 40, 1);
        looks("7", 2, 50, 0, 0, 1);
    }

    @Says(promise = 26, value = "which costs so much (0 .. 9999)")
    static void p26TheGreatestCost() {
        looks("2*d*q-s", 2, 90, 9999, 256, 1563);
        looks("q", 2, 50, 9999, 40, 9999);
    }

    @Says(promise = 26, value = "one digit 0 .. 9 for each EVENT, the first one's first")
    static void p26FromNoughtToAllNines() {
        looks("2*d*q-s", 2, 0, 0, 0, 1);
        looks("2*d*q-s", 2, 99, 0, 0, 1);
        looks("2*d*q-s", 2, 90, 0, 256, 1);
        looks("2*d*q-s", 2, 9, 0, 256, 1);
        looks("2*d*q-s", 2, 10, 0, 16, 1);
    }

    @Says(promise = 26, value = "one digit 0 .. 9 for each EVENT, the first one's first")
    static void p26TheFirstOnesFirst() {
        // (3, 1): nine lights of EVENT 0, and of EVENT 1
        looks("q", 3, 90, 1, 28, 2);
        looks("q", 3, 9, 1, 36, 2);
        PaidForThinking x = Due.with("q");
        x.table(3, 2);
        looks(x, x.saying(1, 1, 0, 0), 900, 1, 18, 2);
        looks(x, x.saying(0, 1, 1, 0), 900, 1, 0, -1);
        looks(x, x.saying(0, 1, 1, 0), 5, 1, 10, 2);
        x.table(4, 1);
        looks(x, 0, 9999, 0, 0, 1);
    }

    @Says(promise = 26, value = "of 10 cases of each EVENT, else none")
    static void p26TheSameForAll() {
        // lights that come as often with each EVENT tell nothing
        for (int digit = 0; digit < 10; digit++) {
            looks("2*d*q-s", 1, 11 * digit, 0, 0, 1);
        }
    }

    @Says(promise = 26, value = "the ROW: that (never below 0)")
    static void p26NeverBelow0() {
        looks("q", 4, 90, 0, 0, 1);
        looks("-q", 0, 37, 0, 0, 1);
        looks("-7", 2, 90, 0, 0, 1);
        PaidForThinking x = Due.with("-s*(e+1)-q");
        for (int lights = 0; lights < 100; lights++) {
            x.look(0, 1, lights, 0);
            Due.is("lights " + lights, x.row(0) >= 0, true);
        }
    }

    @Says(promise = 26, value = "by STEPS and by 10, no less than the cost")
    static void p26NoLess() {
        looks("2*d*q-s", 2, 90, 6, 256, 1);
        looks("2*d*q-s", 2, 90, 7, 256, 2);
        looks("2*d*q-s", 2, 90, 12, 256, 2);
        looks("2*d*q-s", 2, 90, 13, 256, 3);
        // 40 is just 1 by STEPS and by 10
        looks("q", 2, 50, 1, 40, 1);
        looks("q", 2, 50, 2, 40, 2);
        looks("q", 2, 50, 3, 40, 3);
    }

    @Says(promise = 26, value = "by STEPS and by 10, no less than the cost")
    static void p26ByOneAlone() {
        PaidForThinking x = Due.with("q=2");
        x.table(3, 2);
        // 33 times 3 are 99 of 100
        looks(x, 4, 307, 5, 3, 34);
        x.table(2, 2);
        looks(x, 1, 67, 21, 1, 420);
        looks(x, 1, 67, 499, 1, 9980);
        looks(x, 1, 67, 500, 1, -1);
    }

    @Says(promise = 26, value = "the least times (1 .. 9999) that the PAY has to be taken")
    static void p26From1To9999() {
        looks("q", 2, 4, 1, 32, 2);
        looks("q", 2, 4, 7999, 32, 9999);
        looks("q", 2, 4, 8000, 32, -1);
        looks("q", 2, 50, 9998, 40, 9998);
    }

    @Says(promise = 26, value = "(NONE: no such). 0")
    static void p26NoSuchTimes() {
        looks("7", 2, 90, 1, 0, -1);
        looks("q", 4, 90, 9999, 0, -1);
        looks("q", 2, 26, 9999, 32, -1);
    }

    @Says(promise = 26, value = "by how much the WORTH (in 10 cases of each) is more with looking")
    static void p26NotAsInts() {
        // (2, 2): with light 18 times that, without 20 times, against 20 times
        looks("8192*8192*31*(q=4)", 2, 90, 9999, 18 * HUGE, 1);
    }

    @Says(promise = 26, value = "NONE: others.")
    static void p26NoPayOrThought() {
        Edges.refused(x -> {
            for (int p : Edges.NO_PAY) {
                Due.is("PAY " + p, x.look(p, 2, 90, 5), -1);
            }
            for (int t : Edges.NO_SAYING) {
                Due.is("THOUGHT " + t, x.look(0, t, 90, 5), -1);
            }
        });
    }

    @Says(promise = 26, value = "NONE: others.")
    static void p26NoLightsOrCost() {
        Edges.refused(x -> {
            for (int lights : NO_LIGHTS) {
                Due.is("lights " + lights, x.look(0, 2, lights, 5), -1);
            }
            for (int cost : NO_COST) {
                Due.is("cost " + cost, x.look(0, 2, 90, cost), -1);
            }
        });
    }

    @Says(promise = 26, value = "NONE: others.")
    static void p26ADigitTooManyOrMore() {
        PaidForThinking x = Due.with("q");
        x.table(3, 2);
        Due.is("999 of three", x.look(0, 0, 999, 0), 0);
        Due.is("1000 of three", x.look(0, 0, 1000, 0), -1);
        x.table(4, 2);
        Due.is("9999 of four", x.look(0, 0, 9999, 0), 0);
        Due.is("10000 of four", x.look(0, 0, 10000, 0), -1);
    }

    // ---- promise 27

    @Says(promise = 27, value = "The PAY told with which such times are the fewest")
    static void p27TheFewest() {
        PaidForThinking x = Due.with("q", "2*q", "3*q", "4*q");
        Due.is("the last", x.purse(2, 50, 7), 3);
        Due.row("7 by 4", x, 2);
        x.pay(3);
        Due.is("the last but one", x.purse(2, 50, 5), 2);
        Due.row("5 by 3", x, 2);
    }

    @Says(promise = 27, value = "The PAY told with which such times are the fewest")
    static void p27TheFewestAheadOfOthers() {
        PaidForThinking x = Due.with("4*q", "3*q", "2*q", "q");
        Due.is("the first", x.purse(2, 50, 7), 0);
        Due.row("7 by 4", x, 2);
        Due.tell(x, 2, "9*q");
        Due.is("one in the middle", x.purse(2, 50, 7), 2);
        Due.row("7 by 9", x, 1);
    }

    @Says(promise = 27, value = "of equal ones the first: it")
    static void p27OfEqualOnesTheFirst() {
        PaidForThinking x = Due.with("q", "2*q", "3*q", "4*q");
        Due.is("all once", x.purse(2, 50, 1), 0);
        Due.row("all once", x, 1);
        Due.is("at no cost", x.purse(2, 50, 0), 0);
        Due.row("at no cost", x, 1);
        Due.is("twice by two of them", x.purse(2, 50, 6), 2);
        Due.row("twice by two of them", x, 2);
    }

    @Says(promise = 27, value = "The PAY told with which such times are the fewest")
    static void p27ThoseThatAreNone() {
        PaidForThinking x = new PaidForThinking();
        Due.tell(x, 2, "q");
        Due.is("the only one", x.purse(2, 50, 9999), 2);
        Due.row("the only one", x, 9999);
        Due.tell(x, 1, "7");
        Due.is("one by which there are no such times", x.purse(2, 50, 1), 2);
        Due.row("one by which there are no such times", x, 1);
    }

    @Says(promise = 27, value = "the ROW: they.")
    static void p27From1To9999() {
        PaidForThinking x = Due.with("q");
        Due.is("at no cost", x.purse(2, 50, 0), 0);
        Due.row("once", x, 1);
        Due.is("7999 by 32", x.purse(2, 4, 7999), 0);
        Due.row("9999 times", x, 9999);
    }

    @Says(promise = 27, value = "-2: by none")
    static void p27ByNone() {
        Edges.refused(x -> {
            Due.is("nothing more with looking", x.purse(2, 99, 5), -2);
            Due.is("nothing to look for", x.purse(4, 90, 1), -2);
        });
        PaidForThinking x = Due.with("q");
        Due.is("10000 times", x.purse(2, 4, 8000), -2);
    }

    @Says(promise = 27, value = "-2: by none")
    static void p27NoPayAtAll() {
        PaidForThinking x = new PaidForThinking();
        Due.is("no PAY", x.purse(2, 90, 0), -2);
        Due.row("no ROW", x);
    }

    @Says(promise = 27, value = "NONE: others.")
    static void p27Others() {
        Edges.refused(x -> {
            for (int t : Edges.NO_SAYING) {
                Due.is("THOUGHT " + t, x.purse(t, 90, 5), -1);
            }
            for (int lights : NO_LIGHTS) {
                Due.is("lights " + lights, x.purse(2, lights, 5), -1);
            }
            for (int cost : NO_COST) {
                Due.is("cost " + cost, x.purse(2, 90, cost), -1);
            }
        });
        PaidForThinking none = new PaidForThinking();
        Due.is("without a PAY too", none.purse(5, 90, 5), -1);
    }

    // ---- promise 28

    private static void minds(String text, int thought, int w, int due, long... row) {
        PaidForThinking x = Due.with(text);
        Due.is(text + " " + w + " times", x.minds(0, thought, w), due);
        Due.row(text + " " + w + " times", x, row);
    }

    @Says(promise = 28, value = "what a PAY is below 0 counts w (1 .. 9) times")
    static void p28From1To9() {
        minds("2*d*q-s", 3, 1, 3, 1, 1, 10, 1);
        minds("2*d*q-s", 3, 9, 2, 1, 0, 8, 1);
        // 0 is not below 0, and 7 is not
        minds("q", 3, 9, 4, 1, 0, 3, 1);
        minds("7", 4, 9, 0, 5, 1, 7, 1);
    }

    @Says(promise = 28, value = "the first SAYING that is BEST then for a THOUGHT")
    static void p28OfEqualOnesTheFirst() {
        // 3 times 1 and 2, or 1 and 2 three times below 0: (2, 2), (3, 1), (4, 0) are equal
        minds("q-2", 3, 3, 2, 3, 1, 0, 1);
        minds("q-2", 3, 2, 4, 1, 0, 1, 1);
        minds("q-2", 3, 4, 2, 1, 0, 0, 1);
    }

    @Says(promise = 28,
        value = "1 if the THOUGHT itself is (else 0), the MEAN of that SAYING by the PAY as it is, as a fraction.")
    static void p28TheMeanAsItIs() {
        minds("-1", 2, 9, 0, 5, 1, -1, 1);
        minds("-e", 1, 9, 0, 5, 1, -3, 4);
        minds("-e*(q=4)-(q<4)", 1, 9, 4, 1, 0, -3, 4);
    }

    @Says(promise = 28, value = "what a PAY is below 0 counts w (1 .. 9) times")
    static void p28NotAsInts() {
        // twice that, as an int, would be above 0
        minds("-8192*8192*31*(q=4)-1", 0, 2, 1, 4, 0, -1, 1);
        minds("8192*8192*-32+(q=1)", 0, 9, 3, 1, 0, MIN + 1, 1);
    }

    @Says(promise = 28, value = "NONE: others.")
    static void p28TimesOutside() {
        Edges.refused(x -> {
            for (int w : new int[] {0, 10, -1, MIN, MAX}) {
                Due.is(w + " times", x.minds(0, 3, w), -1);
            }
        });
    }

    @Says(promise = 28, value = "NONE: others.")
    static void p28NoPayOrThought() {
        Edges.refused(x -> {
            for (int p : Edges.NO_PAY) {
                Due.is("PAY " + p, x.minds(p, 3, 1), -1);
            }
            for (int t : Edges.NO_SAYING) {
                Due.is("THOUGHT " + t, x.minds(0, t, 1), -1);
            }
        });
    }

    // ---- promise 29

    private static void lot(String text, int add, int top, int due, long... row) {
        PaidForThinking x = Due.with(text);
        x.mean(0, 0, 0);
        Due.is(text + " and " + add + " by " + top, x.lot(0, add, top), due);
        Due.row(text, x, row);
    }

    @Says(promise = 29, value = "1, if that is 0 .. top for all SAYINGS and EVENTS")
    static void p29From0ToTop() {
        lot("2*d*q-s", 16, 32, 1, 16, 32);
        lot("2*d*q-s", 17, 33, 1, 16, 32);
        lot("q", 0, 4, 1, 0, 4);
        lot("1", 0, 1, 1, -1, 0);
        lot("0", 0, 1, 1, 0, 0);
        lot("0", 1, 1, 1, 0, 0);
    }

    @Says(promise = 29, value = "0: not so (the ROW is told all the same)")
    static void p29OneBelow0() {
        lot("2*d*q-s", 15, 32, 0, 16, 32);
        lot("q", -1, 9999, 0, 0, 4);
        lot("-(q=4)*(1-e)", 0, 1, 0, 1, 1);
        lot("-(q=4)*e", 0, 1, 0, 1, 1);
    }

    @Says(promise = 29, value = "0: not so (the ROW is told all the same)")
    static void p29OneAboveTop() {
        lot("2*d*q-s", 16, 31, 0, 16, 32);
        lot("2*d*q-s", 17, 32, 0, 16, 32);
        lot("1+(q=4)*(1-e)", 0, 1, 0, -1, 1);
        lot("1+(q=4)*e", 0, 1, 0, -1, 1);
    }

    @Says(promise = 29, value = "by top (1 .. 9999)")
    static void p29TheEndsOfTop() {
        lot("9999*(q=4)", 0, 9999, 1, 0, 9999);
        lot("9999*(q=4)", 1, 9999, 0, 0, 9999);
        lot("9999*(q=4)", 0, 9998, 0, 0, 9999);
        lot("q=4", 0, 1, 1, 0, 1);
    }

    @Says(promise = 29, value = "(add -9999 .. 9999)")
    static void p29TheEndsOfAdd() {
        lot("9999", -9999, 1, 1, -9999, 0);
        lot("9999+2", -9999, 1, 0, -10001, 0);
        lot("-9999", 9999, 1, 1, 9999, 0);
        lot("0", 9999, 9999, 1, 0, 0);
    }

    @Says(promise = 29,
        value = "0 less the least that the PAY is (add has to be that at least), the greatest less the least.")
    static void p29NotAsInts() {
        lot("8192*8192*32*e", -1, 9999, 0, 2147483648L, 2147483648L);
        lot("8192*8192*32-(q=4)", 9999, 9999, 0, 2147483648L, 4294967295L);
        lot("8192*8192*31+8192*8191+8191", 1, 9999, 0, -MAX, 0);
    }

    @Says(promise = 29, value = "NONE: others (add -9999 .. 9999).")
    static void p29AddOutside() {
        Edges.refused(x -> {
            for (int add : new int[] {-10000, 10000, MIN, MAX}) {
                Due.is("add " + add, x.lot(0, add, 100), -1);
            }
        });
    }

    @Says(promise = 29, value = "NONE: others (add -9999 .. 9999).")
    static void p29TopOutside() {
        Edges.refused(x -> {
            for (int top : new int[] {0, -1, 10000, MIN, MAX}) {
                Due.is("top " + top, x.lot(0, 16, top), -1);
            }
        });
    }

    @Says(promise = 29, value = "NONE: others (add -9999 .. 9999).")
    static void p29NoPay() {
        Edges.refused(x -> {
            for (int p : Edges.NO_PAY) {
                Due.is("PAY " + p, x.lot(p, 16, 100), -1);
            }
        });
    }

    // ---- promise 30

    /** For PAY 0: THOUGHT, EVENT, least PART, bribe. */
    private static void bribed(PaidForThinking x, int[] call, int due, long times) {
        String what = "bribe " + call[0] + ", " + call[1] + ", " + call[2] + ", " + call[3];
        Due.is(what, x.bribe(0, call[0], call[1], call[2], call[3]), due);
        Due.row(what, x, times);
    }

    private static void bribed(String text, int[] call, int due, long times) {
        bribed(Due.with(text), call, due, times);
    }

    @Says(promise = 30, value = "Somebody gives a bribe (0 .. 9999)")
    static void p30NoughtAndTheGreatest() {
        bribed("2*d*q-s", new int[] {2, 0, 3, 0}, 2, 1);
        bribed("2*d*q-s", new int[] {2, 0, 3, 9999}, 3, 5000);
        bribed("2*d*q-s", new int[] {2, 0, 4, 9999}, 4, 1250);
    }

    @Says(promise = 30, value = "if the PART said of an EVENT is at least (0 .. 12) so much")
    static void p30JustAtLeast() {
        bribed("2*d*q-s", new int[] {2, 0, 2, 9999}, 2, 1);
        bribed("2*d*q-s", new int[] {2, 0, 3, 3}, 3, 2);
        bribed("2*d*q-s", new int[] {2, 1, 3, 3}, 1, 2);
        bribed("2*d*q-s", new int[] {2, 1, 2, 3}, 2, 1);
    }

    @Says(promise = 30, value = "if the PART said of an EVENT is at least (0 .. 12) so much")
    static void p30LeastNought() {
        // everybody gets it
        bribed("2*d*q-s", new int[] {2, 0, 0, 9999}, 2, 1);
        bribed("q", new int[] {3, 1, 0, 9999}, 4, -1);
    }

    @Says(promise = 30, value = "if the PART said of an EVENT is at least (0 .. 12) so much")
    static void p30LeastAboveSteps() {
        // nobody gets it
        bribed("2*d*q-s", new int[] {2, 0, 5, 9999}, 2, 1);
        bribed("2*d*q-s", new int[] {2, 0, 12, 9999}, 2, 1);
        PaidForThinking x = Due.with("2*d*q-s");
        x.table(2, 12);
        bribed(x, new int[] {6, 0, 12, 73}, 12, 2);
        bribed(x, new int[] {6, 0, 12, 72}, 6, 1);
    }

    @Says(promise = 30, value = "the bribe comes to what the PAY is, whichever EVENT comes")
    static void p30WhicheverEventComes() {
        // 8 of WORTH are lost by (3, 1), 4 times the bribe are won
        bribed("2*d*q-s", new int[] {2, 0, 3, 1}, 2, 1);
        bribed("2*d*q-s", new int[] {2, 0, 3, 2}, 2, 1);
        PaidForThinking x = Due.with("9*q");
        x.table(3, 1);
        // the EVENT that is bribed for does not come by the THOUGHT
        bribed(x, new int[] {0, 0, 1, 10}, 2, 2);
    }

    @Says(promise = 30, value = "the first SAYING that is BEST then for a THOUGHT")
    static void p30OfEqualOnesTheFirst() {
        bribed("7", new int[] {2, 0, 0, 5}, 0, 1);
        bribed("7", new int[] {2, 0, 1, 5}, 1, 1);
        bribed("7", new int[] {4, 1, 1, 5}, 0, -1);
        bribed("2*d*q-s", new int[] {2, 0, 3, 2}, 2, 1);
    }

    @Says(promise = 30, value = "the least times (1 .. 9999) that the PAY has to be taken")
    static void p30From1To9999() {
        // 1 ahead of the others for each EVENT 0 that comes
        bribed("(q=3)*(1-e)", new int[] {3, 0, 4, 7499}, 4, 9999);
        bribed("(q=3)*(1-e)", new int[] {3, 0, 4, 7500}, 4, -1);
        bribed("(q=4)*(1-e)", new int[] {4, 1, 1, 9999}, 0, 9999);
        bribed("(q=3)*(1-e)", new int[] {3, 0, 4, 1}, 4, 2);
    }

    @Says(promise = 30, value = "(NONE: none)")
    static void p30NoTimes() {
        bribed("q", new int[] {2, 0, 3, 1}, 3, -1);
        bribed("q", new int[] {3, 1, 1, 0}, 4, -1);
        bribed("7", new int[] {4, 1, 1, 1}, 0, -1);
        bribed("-q", new int[] {4, 0, 0, 9999}, 0, -1);
    }

    @Says(promise = 30, value = "the least times (1 .. 9999) that the PAY has to be taken")
    static void p30AgainstTheFirstAndTheLast() {
        bribed("2*d*q-s", new int[] {2, 1, 4, 9999}, 0, 1250);
        bribed("2*d*q-s", new int[] {2, 0, 4, 9999}, 4, 1250);
        bribed("2*d*q-s", new int[] {4, 1, 4, 9999}, 0, 313);
    }

    @Says(promise = 30, value = "the least times (1 .. 9999) that the PAY has to be taken")
    static void p30ByOneAlone() {
        PaidForThinking x = Due.with("q");
        x.table(2, 1);
        bribed(x, new int[] {0, 0, 1, 1}, 0, 1);
        bribed(x, new int[] {0, 0, 1, 2}, 1, 2);
        bribed(x, new int[] {0, 0, 1, 9999}, 1, 9999);
        Due.tell(x, 0, "7");
        bribed(x, new int[] {0, 0, 1, 1}, 1, -1);
        Due.tell(x, 0, "-q");
        bribed(x, new int[] {0, 0, 1, 1}, 1, -1);
        bribed(x, new int[] {0, 1, 1, 1}, 0, 1);
        bribed(x, new int[] {0, 1, 1, 0}, 1, -1);
    }

    @Says(promise = 30, value = "(NONE: none)")
    static void p30ABribeForWhatIsBetterAnyhow() {
        bribed("q", new int[] {3, 0, 4, 1}, 4, -1);
        bribed("q", new int[] {3, 0, 4, 0}, 4, -1);
    }

    @Says(promise = 30, value = "(NONE: none)")
    static void p30AgainstOneAndNotAgainstAnother() {
        // (0, 4) has 2 more and the bribe too; (4, 0), with 2 more, has it not
        bribed("((q<2)+(q=4))*(1-e)", new int[] {2, 1, 2, 9}, 0, -1);
        bribed("((q=4)+(q=3))*(1-e)", new int[] {2, 1, 2, 9}, 0, 1);
        bribed("((q=4)+(q=3)*40)*(1-e)", new int[] {2, 1, 2, 9}, 3, -1);
        bribed("((q=4)*40+(q=3))*(1-e)", new int[] {2, 1, 2, 9}, 4, -1);
    }

    @Says(promise = 30, value = "so that the THOUGHT itself is BEST (NONE: none).")
    static void p30NoMoreTimesThanTheBribeIsWorth() {
        // by q the truth (3, 1) is BEST only with a bribe for it, and taken but a few times
        bribed("q", new int[] {3, 1, 1, 1}, 3, 1);
        // so is it here: with 6 less for it than for (4, 0), a bribe of 1 times 4 is too little
        bribed("(1-e)*((q=4)*4+(q=3)*2)", new int[] {3, 1, 1, 2}, 3, 1);
        bribed("(1-e)*((q=4)*4+(q=3)*2)", new int[] {3, 1, 1, 1}, 4, -1);
    }

    @Says(promise = 30, value = "NONE: others.")
    static void p30NoPayOrThought() {
        Edges.refused(x -> {
            for (int p : Edges.NO_PAY) {
                Due.is("PAY " + p, x.bribe(p, 2, 0, 3, 1), -1);
            }
            for (int t : Edges.NO_SAYING) {
                Due.is("THOUGHT " + t, x.bribe(0, t, 0, 3, 1), -1);
            }
        });
    }

    @Says(promise = 30, value = "NONE: others.")
    static void p30NoEvent() {
        Edges.refused(x -> {
            for (int e : Edges.NO_EVENT) {
                Due.is("EVENT " + e, x.bribe(0, 2, e, 3, 1), -1);
            }
        });
    }

    @Says(promise = 30, value = "NONE: others.")
    static void p30LeastOrBribeOutside() {
        Edges.refused(x -> {
            for (int least : new int[] {-1, 13, MIN, MAX}) {
                Due.is("least " + least, x.bribe(0, 2, 0, least, 1), -1);
            }
            for (int gift : new int[] {-1, 10000, MIN, MAX}) {
                Due.is("bribe " + gift, x.bribe(0, 2, 0, 3, gift), -1);
            }
        });
    }

    // ---- promise 31

    private static void safe(int steps, String text, int due) {
        PaidForThinking x = Due.with(text);
        x.table(2, steps);
        Due.is(text, x.safe(0), due);
    }

    @Says(promise = 31, value = "The greatest bribe (0 .. 9999)")
    static void p31From0To9999() {
        safe(4, "7", 0);
        safe(4, "2*d*q-s", 2);
        safe(4, "4999*(2*d*q-s)", 9998);
        safe(1, "9999*q", 9999);
        safe(1, "9999*q+q", 9999);
        safe(4, "5000*(2*d*q-s)", 9999);
    }

    @Says(promise = 31, value = "each THOUGHT is BEST for itself still")
    static void p31CutTo0() {
        // 3 by 2 STEPS, and 1 by 2 STEPS
        safe(2, "2*d*q-s-(q=1)*e", 1);
        safe(2, "2*d*q-s-(q=1)*e*3", 0);
    }

    @Says(promise = 31, value = "each THOUGHT is BEST for itself still")
    static void p31TheFirstAndTheLastCount() {
        safe(2, "2*d*q-s+(q=1)*e", 1);
        safe(2, "2*d*q-s+2*(q=1)*e", 0);
        safe(2, "2*d*q-s+2*(q=1)*(1-e)", 0);
    }

    @Says(promise = 31, value = "-2: not even 0")
    static void p31NotEven0() {
        Edges.refused(x -> Due.is("by t", x.safe(1), -2));
        safe(4, "q", -2);
        safe(2, "2*d*q-s+3*(q=1)*e", -2);
        safe(2, "2*d*q-s+3*(q=1)*(1-e)", -2);
        safe(2, "2*d*q-s-(q=1)*e*5", -2);
        // the first alone is better for (1, 1), and the last alone
        safe(2, "2*d*q-s+9*(q=2)*e", -2);
        safe(2, "2*d*q-s+9*(q=2)*(1-e)", -2);
    }

    @Says(promise = 31, value = "NONE.")
    static void p31NoPay() {
        Edges.refused(x -> {
            for (int p : Edges.NO_PAY) {
                Due.is("PAY " + p, x.safe(p), -1);
            }
        });
    }

    public static void main(String[] args) {
        Edges.run(EdgeLookingTest.class);
    }
}
