/** A test for each sentence of promises 1 to 11 that names an edge. */
public final class EdgeTellingTest {
    private static final int MIN = Edges.MIN;
    private static final int MAX = Edges.MAX;

    private EdgeTellingTest() {
    }

    // ---- promise 1

    @Says(promise = 1, value = "Two EVENTS, four STEPS")
    static void p1EventsAndSteps() {
        PaidForThinking x = new PaidForThinking();
        Due.is("EVENTS", x.count(0), 2);
        Due.is("STEPS", x.count(1), 4);
        Due.is("SAYINGS", x.count(2), 5);
        Due.is("the last SAYING", x.saying(4, 0, 0, 0), 4);
        Due.noPart("a third EVENT", x, 0, 2);
    }

    @Says(promise = 1, value = "no PAYS.")
    static void p1NoPays() {
        PaidForThinking x = new PaidForThinking();
        Due.is("none", x.count(3), 0);
        for (int p = 0; p < 4; p++) {
            Due.is("none", x.ends(p), -1);
            Due.noGets("none", x, p, 0, 0);
        }
    }

    @Says(promise = 1, value = "Two EVENTS, four STEPS; no PAYS.")
    static void p1NothingElse() {
        PaidForThinking x = new PaidForThinking();
        for (int what = 3; what < 9; what++) {
            Due.is("count(" + what + ")", x.count(what), 0);
        }
        Due.row("no ROW", x);
        for (int i = 0; i < 3; i++) {
            Due.is("nothing kept", x.again(i), false);
        }
        Edges.turnIs("squares", x);
    }

    // ---- promise 2

    @Says(promise = 2, value = "EVENTS, STEPS become these")
    static void p2TheLeast() {
        PaidForThinking x = new PaidForThinking();
        Due.is("two SAYINGS", x.table(2, 1), 2);
        Due.is("EVENTS", x.count(0), 2);
        Due.is("STEPS", x.count(1), 1);
        Due.is("SAYINGS", x.count(2), 2);
        Due.is("the last", x.saying(1, 0, 0, 0), 1);
        Due.noPart("no more", x, 2, 0);
    }

    @Says(promise = 2, value = "EVENTS, STEPS become these")
    static void p2TheMost() {
        PaidForThinking x = new PaidForThinking();
        Due.is("455 SAYINGS", x.table(4, 12), 455);
        Due.is("EVENTS", x.count(0), 4);
        Due.is("STEPS", x.count(1), 12);
        Due.is("SAYINGS", x.count(2), 455);
        Due.is("the last", x.part(454, 0), 12);
        Due.noPart("no more", x, 455, 0);
    }

    @Says(promise = 2, value = "PEOPLE, THE BOOK, WORDS and PAYS that were MADE are gone")
    static void p2PeopleAreGone() {
        PaidForThinking x = Edges.filled();
        x.table(2, 5);
        Due.is("nobody", x.count(4), 0);
        Due.is("nobody", x.prize(0, 0, 0), -1);
        Due.is("the first again", x.person(5), 0);
    }

    @Says(promise = 2, value = "PEOPLE, THE BOOK, WORDS and PAYS that were MADE are gone")
    static void p2TheBookIsGone() {
        PaidForThinking x = Edges.filled();
        x.table(2, 5);
        Due.is("no EVENING", x.count(5), 0);
        Due.is("none to forget", x.forget(), -1);
        x.person(1);
        Due.is("none of its own", x.paid(0, 0), 0);
        Due.is("the first again", x.evening(0, 0, 0), 1);
    }

    @Says(promise = 2, value = "PEOPLE, THE BOOK, WORDS and PAYS that were MADE are gone")
    static void p2WordsAreGone() {
        PaidForThinking x = Edges.filled();
        x.table(2, 5);
        Due.is("no WORD", x.count(6), 0);
        for (int i = 0; i < 6; i++) {
            Due.is("not told", x.meant(i), -1);
            Due.is("never said", x.words(i), 0);
        }
    }

    @Says(promise = 2, value = "PEOPLE, THE BOOK, WORDS and PAYS that were MADE are gone")
    static void p2MadePaysAreGone() {
        PaidForThinking x = Due.with("q*2");
        x.make(1);
        x.mix(2, 0, 1, 1, 1);
        x.lift(3, 0);
        Due.is("four", x.count(3), 15);
        x.table(3, 3);
        Due.is("the text alone", x.count(3), 1);
        Due.noGets("make", x, 1, 0, 0);
        Due.noGets("mix", x, 2, 0, 0);
        Due.noGets("lift", x, 3, 0, 0);
        Due.is("the text, by the new one", x.gets(0, 9, 0), 6);
    }

    @Says(promise = 2, value = "PEOPLE, THE BOOK, WORDS and PAYS that were MADE are gone")
    static void p2TheFirstAndTheLastOfThem() {
        PaidForThinking x = Due.with("q", "q", "q", "q");
        x.make(0);
        x.make(3);
        x.table(2, 4);
        Due.is("the texts alone", x.count(3), 6);
        Due.noGets("PAY 0", x, 0, 0, 0);
        Due.noGets("PAY 3", x, 3, 0, 0);
        Due.is("told again", Due.tell(x, 0, "7"), 0);
        x.table(2, 4);
        Due.is("it is a text now", x.count(3), 7);
    }

    @Says(promise = 2, value = "PEOPLE, THE BOOK, WORDS and PAYS that were MADE are gone")
    static void p2WithTheSameNumbersToo() {
        PaidForThinking x = Edges.filled();
        Due.is("the same", x.table(2, 4), 5);
        int[] due = {2, 4, 5, 3, 0, 0, 0, 4, 3};
        for (int what = 0; what < 9; what++) {
            Due.is("count(" + what + ")", x.count(what), due[what]);
        }
    }

    @Says(promise = 2, value = "PEOPLE, THE BOOK, WORDS and PAYS that were MADE are gone")
    static void p2NothingElseIsGone() {
        PaidForThinking x = Edges.filled();
        x.table(3, 1);
        Due.row("the ROW", x, 1, 0, 8, 1);
        Due.is("a PAY that is a text", x.gets(1, 0, 2), 1);
        Due.is("THE TEXT", x.pay(3), 0);
        Due.is("q+7", x.gets(3, 0, 2), 8);
        Edges.turnIs("TURN", x, 0, 1, -50, 11, 16, 25, 36, 49, 64, 81, 100, 121, 7);
    }

    @Says(promise = 2, value = "EVENTS, STEPS become these")
    static void p2NothingOfTheLastTable() {
        PaidForThinking x = Due.with("8192*8192*31", "7", "9999");
        x.table(4, 12);
        for (int p = 0; p < 3; p++) {
            x.ends(p);
        }
        x.table(2, 12);
        x.table(2, 4);
        Due.tell(x, 0, "2*d*q-s");
        Due.is("best", x.best(1, 4), 5);
        Due.is("could", x.could(1, 4), 5);
        Due.is("gain", x.gain(0), 6);
        Due.is("gain", x.gain(1), 0);
        Due.is("peers", x.peers(1, 0, 4), 25);
        Due.is("back", x.back(1) + x.count(7), 6);
        Due.is("take", x.take(2), true);
        Due.is("decide", x.decide(0, 4, 4, 4), 4);
        Due.is("the least", x.ends(0), 0);
        Due.row("the least and the greatest", x, -16, 16, 0, 0);
        Due.is("rank", x.rank(0, 4, 4), 0);
        Due.is("rank", x.rank(0, 4, 5), -2);
    }

    @Says(promise = 2, value = "how many SAYINGS there are.")
    static void p2HowMany() {
        int[][] due = {{2, 3, 4, 5, 6, 7, 8, 9, 10, 11, 12, 13}, {3, 6, 10, 15, 21, 28, 36, 45, 55, 66, 78, 91},
            {4, 10, 20, 35, 56, 84, 120, 165, 220, 286, 364, 455}};
        PaidForThinking x = new PaidForThinking();
        for (int events = 2; events <= 4; events++) {
            for (int steps = 12; steps >= 1; steps--) {
                Due.is("table(" + events + ", " + steps + ")", x.table(events, steps), due[events - 2][steps - 1]);
            }
        }
    }

    @Says(promise = 2, value = "Refused: others.")
    static void p2TooFewEvents() {
        Edges.refused(x -> {
            Due.is("1", x.table(1, 4), -1);
            Due.is("0", x.table(0, 4), -1);
            Due.is("-2", x.table(-2, 4), -1);
            Due.is("far below", x.table(MIN, 4), -1);
        });
    }

    @Says(promise = 2, value = "Refused: others.")
    static void p2TooManyEvents() {
        Edges.refused(x -> {
            Due.is("5", x.table(5, 4), -1);
            Due.is("far above", x.table(MAX, 4), -1);
        });
    }

    @Says(promise = 2, value = "Refused: others.")
    static void p2TooFewSteps() {
        Edges.refused(x -> {
            Due.is("0", x.table(2, 0), -1);
            Due.is("-4", x.table(2, -4), -1);
            Due.is("far below", x.table(2, MIN), -1);
        });
    }

    @Says(promise = 2, value = "Refused: others.")
    static void p2TooManySteps() {
        Edges.refused(x -> {
            Due.is("13", x.table(2, 13), -1);
            Due.is("far above", x.table(2, MAX), -1);
        });
    }

    // ---- promise 3

    @Says(promise = 3, value = "The number of a SAYING by its PARTS")
    static void p3FirstAndLast() {
        PaidForThinking x = new PaidForThinking();
        Due.is("the first", x.saying(0, 4, 0, 0), 0);
        Due.is("the last", x.saying(4, 0, 0, 0), 4);
        x.table(4, 12);
        Due.is("the first", x.saying(0, 0, 0, 12), 0);
        Due.is("the last", x.saying(12, 0, 0, 0), 454);
    }

    @Says(promise = 3, value = "(of EVENTS that are not there 0)")
    static void p3OfEventsThatAreNotThere() {
        PaidForThinking x = new PaidForThinking();
        Due.is("0, 0", x.saying(3, 1, 0, 0), 3);
        Due.is("1, -1", x.saying(3, 1, 1, -1), -1);
        Due.is("a third one", x.saying(3, 0, 1, 0), -1);
        Due.is("a fourth one", x.saying(3, 0, 0, 1), -1);
        Due.is("a third one and too many", x.saying(3, 1, 1, 0), -1);
        x.table(3, 4);
        Due.is("a third one is there", x.saying(3, 0, 1, 0), 12);
        Due.is("a fourth one is not", x.saying(3, 0, 0, 1), -1);
        Due.is("a fourth one and too many", x.saying(3, 0, 1, 1), -1);
    }

    @Says(promise = 3, value = "NONE: it is none.")
    static void p3NotSteps() {
        PaidForThinking x = new PaidForThinking();
        Due.is("one too few", x.saying(3, 0, 0, 0), -1);
        Due.is("one too many", x.saying(3, 2, 0, 0), -1);
        Due.is("nought", x.saying(0, 0, 0, 0), -1);
    }

    @Says(promise = 3, value = "NONE: it is none.")
    static void p3NotStepsOfFour() {
        PaidForThinking x = new PaidForThinking();
        x.table(4, 4);
        int[] parts = new int[4];
        for (int e = 0; e < 4; e++) {
            for (int p = -1; p < 6; p++) {
                parts[e] = p;
                Due.is(p + " of EVENT " + e, x.saying(parts[0], parts[1], parts[2], parts[3]) != -1, p == 4);
            }
            parts[e] = 0;
        }
        int s = x.saying(1, 1, 1, 1);
        Due.is("(1, 1, 1, 1)", x.part(s, 3), 1);
        int[][] wrong = {{0, 1, 1, 1}, {1, 0, 1, 1}, {1, 1, 0, 1}, {1, 1, 1, 0}, {2, 1, 1, 1}, {1, 2, 1, 1}, {1, 1, 2, 1},
            {1, 1, 1, 2}};
        for (int[] w : wrong) {
            Due.is("one too few or too many", x.saying(w[0], w[1], w[2], w[3]), -1);
        }
    }

    @Says(promise = 3, value = "NONE: it is none.")
    static void p3PartsBelow0() {
        PaidForThinking x = new PaidForThinking();
        Due.is("-1 and 5", x.saying(-1, 5, 0, 0), -1);
        Due.is("5 and -1", x.saying(5, -1, 0, 0), -1);
        x.table(4, 4);
        Due.is("-1 of the third", x.saying(0, 5, -1, 0), -1);
        Due.is("-1 of the fourth", x.saying(0, 5, 0, -1), -1);
    }

    @Says(promise = 3, value = "NONE: it is none.")
    static void p3AroundTheInts() {
        PaidForThinking x = new PaidForThinking();
        x.table(4, 4);
        Due.is("4 once around", x.saying(MAX, MAX, 6, 0), -1);
        Due.is("4 once around", x.saying(MIN, MIN, 4, 0), -1);
        Due.is("4 once around", x.saying(1 << 30, 1 << 30, 1 << 30, (1 << 30) + 4), -1);
    }

    @Says(promise = 3, value = "NONE: it is none.")
    static void p3OfTheLastTable() {
        PaidForThinking x = new PaidForThinking();
        x.table(4, 12);
        x.table(2, 4);
        Due.is("one of the last table", x.saying(0, 12, 0, 0), -1);
        Due.is("one of the last table", x.saying(0, 0, 5, 7), -1);
        Due.is("one of four EVENTS", x.saying(0, 0, 4, 0), -1);
    }

    // ---- promise 4

    @Says(promise = 4, value = "The PART of a SAYING for an EVENT.")
    static void p4FirstAndLast() {
        PaidForThinking x = new PaidForThinking();
        x.table(4, 12);
        int[] ends = {0, 0, 0, 12};
        for (int e = 0; e < 4; e++) {
            Due.is("the first SAYING", x.part(0, e), ends[e]);
            Due.is("the last SAYING", x.part(454, e), ends[3 - e]);
        }
    }

    @Says(promise = 4, value = "NoSuchElementException: none such.")
    static void p4NoSaying() {
        PaidForThinking x = new PaidForThinking();
        for (int s : Edges.NO_SAYING) {
            Due.noPart("SAYING " + s, x, s, 0);
            Due.noPart("SAYING " + s, x, s, 1);
        }
        x.table(4, 12);
        Due.noPart("SAYING 455", x, 455, 0);
    }

    @Says(promise = 4, value = "NoSuchElementException: none such.")
    static void p4NoEvent() {
        PaidForThinking x = new PaidForThinking();
        for (int e : Edges.NO_EVENT) {
            Due.noPart("EVENT " + e, x, 0, e);
            Due.noPart("EVENT " + e, x, 4, e);
        }
        x.table(4, 1);
        Due.noPart("EVENT 4", x, 0, 4);
        Due.noPart("EVENT -1", x, 3, -1);
    }

    @Says(promise = 4, value = "NoSuchElementException: none such.")
    static void p4OfTheLastTable() {
        PaidForThinking x = new PaidForThinking();
        x.table(4, 12);
        x.table(3, 2);
        Due.noPart("a SAYING of the last table", x, 6, 0);
        Due.noPart("an EVENT of the last table", x, 0, 3);
    }

    @Says(promise = 4, value = "NoSuchElementException: none such.")
    static void p4ChangesNothing() {
        Edges.refused(x -> {
            Due.noPart("no SAYING", x, 5, 0);
            Due.noPart("no EVENT", x, 0, 2);
        });
    }

    // ---- promise 5

    @Says(promise = 5, value = "TURN at 0 .. 12 becomes v: what it was.")
    static void p5TheEnds() {
        PaidForThinking x = new PaidForThinking();
        Due.is("at 0", x.turn(0, 9999), 0);
        Due.is("at 0", x.turn(0, -9999), 9999);
        Due.is("at 0", x.turn(0, 5), -9999);
        Due.is("at 12", x.turn(12, 9999), 144);
        Due.is("at 12", x.turn(12, -9999), 9999);
        Due.is("at 12", x.turn(12, 6), -9999);
        Edges.turnIs("the others stay", x, 5, 1, 4, 9, 16, 25, 36, 49, 64, 81, 100, 121, 6);
    }

    @Says(promise = 5, value = "TURN at 0 .. 12 becomes v: what it was.")
    static void p5WhatWasNone() {
        PaidForThinking x = new PaidForThinking();
        x.turn(3, -1);
        Due.is("-1 is what it was", x.turn(3, 0), -1);
        Due.is("and it became 0", x.turn(3, 1), 0);
    }

    @Says(promise = 5, value = "Refused: others.")
    static void p5NoPlace() {
        Edges.refused(x -> {
            Due.is("-1", x.turn(-1, 0), -1);
            Due.is("13", x.turn(13, 0), -1);
            Due.is("far below", x.turn(MIN, 0), -1);
            Due.is("far above", x.turn(MAX, 0), -1);
        });
    }

    @Says(promise = 5, value = "Refused: others.")
    static void p5TooSmallOrTooLarge() {
        Edges.refused(x -> {
            Due.is("10000", x.turn(0, 10000), -1);
            Due.is("-10000", x.turn(12, -10000), -1);
            Due.is("far below", x.turn(0, MIN), -1);
            Due.is("far above", x.turn(12, MAX), -1);
        });
    }

    // ---- promise 6

    @Says(promise = 6, value = "bytes (kind 0)")
    static void p6BytesGoAround() {
        PaidForThinking x = new PaidForThinking();
        Due.is("the sum", x.sheet(0, 3, 127, 1), 127 - 128 - 127 + 645);
        Edges.turnIs("127 and behind it", x, 127, -128, -127);
        x.sheet(0, 3, -128, -1);
        Edges.turnIs("-128 and ahead of it", x, -128, 127, 126);
    }

    @Says(promise = 6, value = "of bytes, shorts the lowest bits, with their sign")
    static void p6BytesOfLargeNumbers() {
        PaidForThinking x = new PaidForThinking();
        x.sheet(0, 5, 128, 64);
        Edges.turnIs("128, 192, 256, 320, 384", x, -128, -64, 0, 64, -128);
        x.sheet(0, 2, 32767, -32512);
        Edges.turnIs("32767, 255", x, -1, -1);
        x.sheet(0, 2, MIN, 127);
        Edges.turnIs("the least int", x, 0, 127);
    }

    @Says(promise = 6, value = "of bytes, shorts the lowest bits, with their sign")
    static void p6ShortsOfLargeNumbers() {
        PaidForThinking x = new PaidForThinking();
        x.sheet(1, 4, 65536 + 5, 65536 - 10);
        Edges.turnIs("65541 and on", x, 5, -5, -15, -25);
        x.sheet(1, 3, 65535, 65536);
        Edges.turnIs("-1 each", x, -1, -1, -1);
        x.sheet(1, 3, 0xf0000 + 300, 128);
        Edges.turnIs("more than a byte", x, 300, 428, 556);
    }

    @Says(promise = 6, value = "put to -9999 .. 9999")
    static void p6ShortsArePut() {
        PaidForThinking x = new PaidForThinking();
        Due.is("the sum", x.sheet(1, 3, 9998, 1), 3 * 9999 - 1 + 645);
        Edges.turnIs("above", x, 9998, 9999, 9999);
        x.sheet(1, 3, -9998, -1);
        Edges.turnIs("below", x, -9998, -9999, -9999);
        x.sheet(1, 3, 32767, 1);
        Edges.turnIs("32767, -32768, -32767", x, 9999, -9999, -9999);
    }

    @Says(promise = 6, value = "put to -9999 .. 9999")
    static void p6IntsArePut() {
        PaidForThinking x = new PaidForThinking();
        x.sheet(2, 3, 9998, 1);
        Edges.turnIs("above", x, 9998, 9999, 9999);
        x.sheet(2, 3, -9998, -1);
        Edges.turnIs("below", x, -9998, -9999, -9999);
        Due.is("the sum", x.sheet(2, 13, 70000, 0), 13 * 9999);
        Due.is("the sum", x.sheet(2, 13, -70000, 0), -13 * 9999);
        x.sheet(2, 2, MIN, -1);
        Edges.turnIs("the ends of ints", x, -9999, 9999);
    }

    @Says(promise = 6, value = "of n entries f, f + step, ..")
    static void p6StepsGoAround() {
        PaidForThinking x = new PaidForThinking();
        x.sheet(2, 4, 0, MAX);
        Edges.turnIs("0, the greatest int, -2, and so on", x, 0, 9999, -2, 9999);
        x.sheet(2, 4, 5, MIN);
        Edges.turnIs("the least int, twice, is 0", x, 5, -9999, 5, -9999);
        x.sheet(0, 4, 5, MIN);
        Edges.turnIs("as bytes", x, 5, 5, 5, 5);
        x.sheet(1, 13, 7, MAX);
        Edges.turnIs("as shorts", x, 7, 6, 5, 4, 3, 2, 1, 0, -1, -2, -3, -4, -5);
    }

    @Says(promise = 6, value = "of n entries f, f + step, ..")
    static void p6NoEntries() {
        for (int kind = 0; kind < 3; kind++) {
            PaidForThinking x = new PaidForThinking();
            x.sheet(2, 13, 5, 5);
            Due.is("squares", x.sheet(kind, 0, 7, 7), 650);
            Edges.turnIs("squares", x);
        }
    }

    @Says(promise = 6, value = "of n entries f, f + step, ..")
    static void p6AllEntries() {
        for (int kind = 0; kind < 3; kind++) {
            PaidForThinking x = new PaidForThinking();
            Due.is("13", x.sheet(kind, 13, -6, 1), 0);
            Edges.turnIs("13", x, -6, -5, -4, -3, -2, -1, 0, 1, 2, 3, 4, 5, 6);
        }
    }

    @Says(promise = 6, value = "those behind it are squares: the sum of all 13.")
    static void p6BehindIt() {
        PaidForThinking x = new PaidForThinking();
        x.sheet(2, 13, 5, 5);
        Due.is("12 entries", x.sheet(1, 12, 0, 0), 144);
        Edges.turnIs("one square", x, 0, 0, 0, 0, 0, 0, 0, 0, 0, 0, 0, 0, 144);
        Due.is("1 entry", x.sheet(0, 1, 9, 9), 659);
        Edges.turnIs("12 squares", x, 9);
    }

    @Says(promise = 6, value = "-2: n below 0 (of kinds 0 .. 2; nothing changes)")
    static void p6NBelow0() {
        Edges.refused(x -> {
            for (int kind = 0; kind < 3; kind++) {
                Due.is("-1", x.sheet(kind, -1, 5, 5), -2);
                Due.is("far below", x.sheet(kind, MIN, 5, 5), -2);
            }
        });
    }

    @Says(promise = 6, value = "-3: missing (all squares).")
    static void p6Missing() {
        for (int n = 0; n <= 13; n += 13) {
            PaidForThinking x = Due.with("t");
            x.sheet(2, 13, 5, 5);
            Due.is("t goes by it", x.gets(0, 2, 0), 15);
            Due.is("missing", x.sheet(3, n, 7, 7), -3);
            Due.is("t goes by squares", x.gets(0, 2, 0), 4);
            Edges.turnIs("squares", x);
        }
    }

    @Says(promise = 6, value = "-2: n below 0 (of kinds 0 .. 2; nothing changes)")
    static void p6MissingWithNBelow0() {
        PaidForThinking x = new PaidForThinking();
        x.sheet(2, 13, 5, 5);
        Due.is("of kind 3 it is missing", x.sheet(3, -1, 7, 7), -3);
        Edges.turnIs("squares", x);
        Due.is("far below", x.sheet(3, MIN, 7, 7), -3);
    }

    @Says(promise = 6, value = "NONE: another kind, n above 13 (these first).")
    static void p6AnotherKind() {
        Edges.refused(x -> {
            Due.is("4", x.sheet(4, 3, 5, 5), -1);
            Due.is("-1", x.sheet(-1, 3, 5, 5), -1);
            Due.is("far above", x.sheet(MAX, 3, 5, 5), -1);
            Due.is("far below", x.sheet(MIN, 3, 5, 5), -1);
        });
    }

    @Says(promise = 6, value = "NONE: another kind, n above 13 (these first).")
    static void p6NAbove13() {
        Edges.refused(x -> {
            for (int kind = 0; kind < 3; kind++) {
                Due.is("14", x.sheet(kind, 14, 5, 5), -1);
                Due.is("far above", x.sheet(kind, MAX, 5, 5), -1);
            }
        });
    }

    @Says(promise = 6, value = "NONE: another kind, n above 13 (these first).")
    static void p6TheseFirst() {
        Edges.refused(x -> {
            Due.is("another kind, n below 0", x.sheet(4, -1, 5, 5), -1);
            Due.is("another kind, n below 0", x.sheet(-1, MIN, 5, 5), -1);
            Due.is("missing, n above 13", x.sheet(3, 14, 5, 5), -1);
            Due.is("missing, n far above", x.sheet(3, MAX, 5, 5), -1);
        });
    }

    // ---- promise 7

    @Says(promise = 7, value = "of v the highest byte first")
    static void p7TheHighestFirst() {
        PaidForThinking x = new PaidForThinking();
        x.sign(0x31323334);
        x.pay(0);
        Due.is("1234", x.gets(0, 0, 0), 1234);
        x.sign(0x392d2d31);
        x.sign(0x30303100);
        x.end(7);
        x.pay(0);
        Due.is("9--1001", x.gets(0, 0, 0), 1010);
    }

    @Says(promise = 7, value = "of v the highest byte first")
    static void p7BytesAbove127() {
        PaidForThinking x = new PaidForThinking();
        Due.is("four", x.sign(0xf12b712b), 4);
        Due.is("the first", x.pay(0), -1);
        x.sign(0x71ab2b71);
        Due.is("the second", x.pay(0), -2);
        x.sign(0x712bf171);
        Due.is("the third", x.pay(0), -3);
        x.sign(0x712b71ab);
        Due.is("the fourth", x.pay(0), -4);
    }

    @Says(promise = 7, value = "Four signs come behind THE TEXT")
    static void p7AllBytesAreSigns() {
        PaidForThinking x = new PaidForThinking();
        Due.is("four of 0", x.sign(0), 4);
        Due.is("four of 255", x.sign(-1), 8);
        Due.is("the highest bit", x.sign(MIN), 12);
        Due.is("12", x.count(8), 12);
        Due.is("0 is no thing", x.pay(0), -1);
    }

    @Says(promise = 7, value = "how many it has.")
    static void p7UpTo80() {
        PaidForThinking x = new PaidForThinking();
        for (int i = 1; i <= 20; i++) {
            Due.is("so many", x.sign(0x71717171), 4 * i);
            Due.is("so many", x.count(8), 4 * i);
        }
    }

    @Says(promise = 7, value = "Refused: there would be more than 80.")
    static void p7MoreThan80() {
        PaidForThinking x = new PaidForThinking();
        for (int i = 0; i < 20; i++) {
            x.sign(0x31323334);
        }
        Due.is("84", x.sign(0x39393939), -1);
        Due.is("80 still", x.count(8), 80);
        for (int n = 79; n >= 77; n--) {
            x.end(n);
            Due.is(n + 4 + "", x.sign(0x39393939), -1);
            Due.is(n + " still", x.count(8), n);
        }
        x.end(76);
        Due.is("80 again", x.sign(0x39393939), 80);
        x.end(4);
        x.pay(0);
        Due.is("the first four are what they were", x.gets(0, 0, 0), 1234);
    }

    // ---- promise 8

    @Says(promise = 8, value = "THE TEXT has its first n signs alone: true")
    static void p8TheFirst() {
        PaidForThinking x = new PaidForThinking();
        x.sign(0x31323334);
        x.sign(0x35363738);
        Due.is("all of them", x.end(8), true);
        Due.is("eight still", x.count(8), 8);
        Due.is("three", x.end(3), true);
        Due.is("three", x.count(8), 3);
        x.pay(0);
        Due.is("123", x.gets(0, 0, 0), 123);
    }

    @Says(promise = 8, value = "THE TEXT has its first n signs alone: true")
    static void p8NoneOfThem() {
        PaidForThinking x = new PaidForThinking();
        Due.is("none of none", x.end(0), true);
        x.sign(0x31323334);
        Due.is("none of four", x.end(0), true);
        Due.is("none", x.count(8), 0);
        Due.is("it is empty", x.pay(0), 0);
        Due.is("no PAY", x.count(3), 0);
    }

    @Says(promise = 8, value = "false if it has not so many, or n is below 0.")
    static void p8NotSoMany() {
        PaidForThinking empty = new PaidForThinking();
        Due.is("one of none", empty.end(1), false);
        Edges.refused(x -> {
            Due.is("one more", x.end(4), false);
            Due.is("80", x.end(80), false);
            Due.is("far above", x.end(MAX), false);
        });
    }

    @Says(promise = 8, value = "false if it has not so many, or n is below 0.")
    static void p8NBelow0() {
        PaidForThinking empty = new PaidForThinking();
        Due.is("below 0 of none", empty.end(-1), false);
        Edges.refused(x -> {
            Due.is("-1", x.end(-1), false);
            Due.is("far below", x.end(MIN), false);
        });
    }

    // ---- promise 9

    @Says(promise = 9, value = "THE TEXT is a PAY")
    static void p9FirstAndLast() {
        PaidForThinking x = new PaidForThinking();
        Due.is("PAY 0", Due.tell(x, 0, "q"), 0);
        Due.is("THE TEXT is read", x.count(8), 0);
        Due.is("PAY 3", Due.tell(x, 3, "e"), 0);
        Due.is("these two", x.count(3), 9);
        Due.is("PAY 0 is another one", Due.tell(x, 0, "7"), 0);
        Due.is("7", x.gets(0, 0, 0), 7);
        Due.is("e", x.gets(3, 0, 1), 1);
    }

    @Says(promise = 9, value = "(an empty one: it is none then)")
    static void p9AnEmptyOne() {
        PaidForThinking x = Due.with("q", "q");
        x.make(2);
        Due.is("one that was told", x.pay(0), 0);
        Due.is("two are there", x.count(3), 6);
        Due.is("one that was MADE", x.pay(2), 0);
        Due.is("one is there", x.count(3), 2);
        Due.is("one that was none", x.pay(3), 0);
        Due.is("one is there", x.count(3), 2);
        Due.is("the last one", x.pay(1), 0);
        Due.is("none", x.count(3), 0);
    }

    private static void wrongAt(String text, int p) {
        PaidForThinking x = new PaidForThinking();
        Due.is("pay of " + text, Due.tell(x, 0, text), -1 - p);
        Due.is("THE TEXT is read behind " + text, x.count(8), 0);
        Due.is("no PAY behind " + text, x.count(3), 0);
    }

    @Says(promise = 9, value = "-1 - p: the sign at p can't stand there")
    static void p9WhereAThingIsDue() {
        for (String sign : new String[] {"+", "*", "/", "<", ">", "=", ")", " ", "a", "Q", "\0", "\u00ff"}) {
            wrongAt(sign, 0);
            wrongAt("q+" + sign, 2);
            wrongAt("q<" + sign, 2);
            wrongAt("q/" + sign, 2);
            wrongAt("(" + sign, 1);
            wrongAt("-" + sign, 1);
        }
    }

    @Says(promise = 9, value = "-1 - p: the sign at p can't stand there")
    static void p9BehindAThing() {
        for (String sign : new String[] {"q", "d", "(", " ", "a", "Q", "\0", "\u00ff", ")"}) {
            wrongAt("q" + sign, 1);
            wrongAt("123" + sign, 3);
            wrongAt("(q)" + sign, 3);
            if (!sign.equals(")")) {
                wrongAt("(q" + sign, 2);
                wrongAt("((q)+1" + sign, 6);
            }
        }
        wrongAt("q1", 1);
        wrongAt("(q)1", 3);
        wrongAt("(1)1", 3);
        wrongAt("1 1", 1);
    }

    @Says(promise = 9, value = "its end, if it ends too early")
    static void p9EndsTooEarly() {
        wrongAt("q+", 2);
        wrongAt("-", 1);
        wrongAt("q*", 2);
        wrongAt("q<", 2);
        wrongAt("(", 1);
        wrongAt("(q", 2);
        wrongAt("((q)", 4);
        wrongAt("((q)*", 5);
        wrongAt("1234+(q-1234", 12);
    }

    @Says(promise = 9, value = "its end, if it ends too early")
    static void p9EndsTooEarlyAt60() {
        wrongAt(Edges.many("q+", 30), 60);
        wrongAt(Edges.many("-", 60), 60);
        wrongAt("(" + Edges.many("q+", 29) + "q", 60);
    }

    @Says(promise = 9, value = "60, if it has more and the first 60 could go on or end")
    static void p9First60CouldEnd() {
        wrongAt(Edges.many("-", 59) + "q+q", 60);
        wrongAt(Edges.many("-", 59) + "q+", 60);
        wrongAt(Edges.many("-", 59) + "q ", 60);
        wrongAt(Edges.many("-", 59) + "12", 60);
        wrongAt(Edges.many("q+", 29) + "(q)", 60);
    }

    @Says(promise = 9, value = "60, if it has more and the first 60 could go on or end")
    static void p9First60CouldGoOn() {
        wrongAt(Edges.many("q+", 30) + "q", 60);
        wrongAt(Edges.many("q+", 30) + "?", 60);
        wrongAt(Edges.many("-", 80), 60);
        wrongAt("(" + Edges.many("q+", 29) + "q)", 60);
        wrongAt("(((((" + Edges.many("q+", 27) + "q)))))", 60);
    }

    @Says(promise = 9, value = "60, if it has more and the first 60 could go on or end")
    static void p9OneOfTheFirst60CantStand() {
        wrongAt(Edges.many("q+", 29) + "q q", 59);
        wrongAt(Edges.many("q+", 29) + "qqq", 59);
        wrongAt(Edges.many("-", 59) + "?q", 59);
        wrongAt("?" + Edges.many("-", 79), 0);
        wrongAt("q" + Edges.many("q+", 39) + "q", 1);
    }

    @Says(promise = 9, value = "60, if it has more and the first 60 could go on or end")
    static void p9Just60() {
        PaidForThinking x = Due.with(Edges.many("q+", 29) + "22");
        Due.is("29 times 3, and 22", x.gets(0, 3, 0), 109);
        Due.is("five ( ) too", Due.tell(x, 1, "(((((" + Edges.many("q+", 24) + "12)))))"), 0);
        Due.is("24 times 3, and 12", x.gets(1, 3, 0), 84);
    }

    /** What was begun with a wrong text is not gone on with. */
    @Says(promise = 9, value = "THE TEXT is a PAY")
    static void p9BehindAWrongOne() {
        String[] wrong = {"q+", "((((q", "-a", "1<2<3", "12a", "2*(3+4a", Edges.many("-", 61), "1=1+"};
        for (String text : wrong) {
            PaidForThinking x = new PaidForThinking();
            Due.is("wrong: " + text, Due.tell(x, 0, text) < 0, true);
            Due.is("right behind it", Due.tell(x, 0, "7-5"), 0);
            Due.is("7-5", x.gets(0, 0, 0), 2);
            Due.is("wrong: " + text, Due.tell(x, 1, text) < 0, true);
            Due.is("7) behind it", Due.tell(x, 1, "7)"), -2);
            Due.is("wrong: " + text, Due.tell(x, 1, text) < 0, true);
            Due.is("7<8 behind it", Due.tell(x, 1, "7<8"), 0);
            Due.is("7<8", x.gets(1, 0, 0), 1);
            Due.is("wrong: " + text, Due.tell(x, 2, text) < 0, true);
            Due.is("five in one another behind it", Due.tell(x, 2, "(((((9)))))"), 0);
            Due.is("9", x.gets(2, 0, 0), 9);
            Due.is("six in one another", Due.tell(x, 2, "((((((9))))))"), -6);
        }
    }

    @Says(promise = 9, value = "-100: no such PAY (asked first).")
    static void p9NoSuchPay() {
        for (int i : Edges.NO_PLACE) {
            Edges.refusedReading(x -> Due.is("a right text", x.pay(i), -100));
        }
    }

    @Says(promise = 9, value = "-100: no such PAY (asked first).")
    static void p9AskedFirst() {
        for (int i : Edges.NO_PLACE) {
            PaidForThinking x = new PaidForThinking();
            Due.is("an empty text", x.pay(i), -100);
            Due.is("a wrong text", Due.tell(x, i, "?"), -100);
            Due.is("THE TEXT is read", x.count(8), 0);
            Due.is("a text that ends too early", Due.tell(x, i, "q+"), -100);
            Due.is("a text that is too long", Due.tell(x, i, Edges.many("-", 80)), -100);
            Due.is("no PAY", x.count(3), 0);
        }
    }

    // ---- promise 10

    @Says(promise = 10, value = "What a PAY is for a SAYING and an EVENT.")
    static void p10FirstAndLast() {
        PaidForThinking x = Due.with("q*10+e", "7", "7", "q*100+e");
        x.table(4, 12);
        Due.is("first SAYING, first EVENT", x.gets(0, 0, 0), 0);
        Due.is("first SAYING, last EVENT", x.gets(0, 0, 3), 123);
        Due.is("last SAYING, first EVENT", x.gets(3, 454, 0), 1200);
        Due.is("last SAYING, last EVENT", x.gets(3, 454, 3), 3);
    }

    @Says(promise = 10, value = "NoSuchElementException: none such.")
    static void p10NoPay() {
        PaidForThinking x = Due.with("q");
        for (int p : new int[] {1, 2, 3, 4, -1, MIN, MAX}) {
            Due.noGets("PAY " + p, x, p, 0, 0);
        }
        x.pay(0);
        Due.noGets("no more", x, 0, 0, 0);
    }

    @Says(promise = 10, value = "NoSuchElementException: none such.")
    static void p10NoSaying() {
        PaidForThinking x = Due.with("q");
        for (int s : Edges.NO_SAYING) {
            Due.noGets("SAYING " + s, x, 0, s, 0);
            Due.noGets("SAYING " + s, x, 0, s, 1);
        }
        x.table(4, 12);
        Due.noGets("SAYING 455", x, 0, 455, 0);
        x.table(3, 2);
        Due.noGets("a SAYING of the last table", x, 0, 6, 0);
    }

    @Says(promise = 10, value = "NoSuchElementException: none such.")
    static void p10NoEvent() {
        PaidForThinking x = Due.with("q");
        for (int e : Edges.NO_EVENT) {
            Due.noGets("EVENT " + e, x, 0, 0, e);
            Due.noGets("EVENT " + e, x, 0, 4, e);
        }
        x.table(4, 1);
        Due.noGets("EVENT 4", x, 0, 0, 4);
    }

    @Says(promise = 10, value = "NoSuchElementException: none such.")
    static void p10ChangesNothing() {
        Edges.refused(x -> {
            Due.noGets("no PAY", x, 3, 0, 0);
            Due.noGets("no SAYING", x, 0, 5, 0);
            Due.noGets("no EVENT", x, 0, 0, 2);
        });
    }

    // ---- promise 11

    private static void ends(String text, long... row) {
        PaidForThinking x = Due.with(text);
        Due.is(text, x.ends(0), 0);
        Due.row(text, x, row);
    }

    @Says(promise = 11, value = "the first SAYING and its first EVENT with the least. 0")
    static void p11AllTheSame() {
        ends("7", 7, 7, 0, 0);
        ends("0", 0, 0, 0, 0);
    }

    @Says(promise = 11, value = "the first SAYING and its first EVENT with the least.")
    static void p11OfEqualOnesTheFirst() {
        ends("2*d*q-s", -16, 16, 0, 0);
        ends("q", 0, 4, 0, 0);
        ends("-(q=2)", -1, 0, 2, 0);
        ends("-(q=4)", -1, 0, 0, 1);
    }

    @Says(promise = 11, value = "the first SAYING and its first EVENT with the least.")
    static void p11InTheLastPlace() {
        ends("-(q=0)*e", -1, 0, 4, 1);
        ends("(q=0)*e", 0, 1, 0, 0);
        ends("-(q=4)*(1-e)", -1, 0, 4, 0);
        ends("-(q=4)*e", -1, 0, 0, 1);
    }

    @Says(promise = 11, value = "the first SAYING and its first EVENT with the least.")
    static void p11InEachPlace() {
        for (int s = 0; s < 5; s++) {
            ends("-(q=" + s + ")*(e=0)", -1, 0, s, 0);
            ends("-(q=" + (4 - s) + ")*(e=1)", -1, 0, s, 1);
            ends("(q=" + s + ")*(e=0)", 0, 1, 0, s == 0 ? 1 : 0);
            ends("(q=" + (4 - s) + ")*(e=1)", 0, 1, 0, 0);
        }
    }

    @Says(promise = 11, value = "The least and the greatest a PAY ever is")
    static void p11TheEndsOfInts() {
        ends("e*8192*8192*32-(1-e)", MIN, -1, 0, 1);
        ends("(8192*8192*31+8192*8191+8191)*(q=4)", 0, MAX, 0, 0);
        ends("8192*8192*32-(q=0)*e", MIN, MAX, 0, 0);
    }

    @Says(promise = 11, value = "The least and the greatest a PAY ever is")
    static void p11AllOf455() {
        PaidForThinking x = Due.with("-(q=12)*(e=0)");
        x.table(4, 12);
        x.ends(0);
        Due.row("the last SAYING", x, -1, 0, 454, 0);
        Due.tell(x, 0, "-(s=122)*(q=1)*(e=3)");
        x.ends(0);
        Due.row("11 and 1: the last EVENT", x, -1, 0, x.saying(0, 0, 11, 1), 3);
    }

    @Says(promise = 11, value = "NONE.")
    static void p11NoPay() {
        Edges.refused(x -> {
            for (int p : Edges.NO_PAY) {
                Due.is("PAY " + p, x.ends(p), -1);
            }
        });
    }

    public static void main(String[] args) {
        Edges.run(EdgeTellingTest.class);
    }
}
