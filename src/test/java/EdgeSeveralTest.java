/** A test for each sentence of promises 32 to 39 that names an edge. */
public final class EdgeSeveralTest {
    private static final int MIN = Edges.MIN;
    private static final int MAX = Edges.MAX;

    private EdgeSeveralTest() {
    }

    private static PaidForThinking people(PaidForThinking x, int... thoughts) {
        for (int i = 0; i < thoughts.length; i++) {
            Due.is("person", x.person(thoughts[i]), i);
        }
        return x;
    }

    // ---- promise 32

    @Says(promise = 32, value = "One of PEOPLE more, with a THOUGHT: its number.")
    static void p32FirstToSixth() {
        PaidForThinking x = Due.with("7");
        int[] thoughts = {4, 0, 4, 1, 3, 0};
        for (int i = 0; i < 6; i++) {
            Due.is("its number", x.person(thoughts[i]), i);
            Due.is("so many", x.count(4), i + 1);
        }
        x.rest(0);
        Due.row("their THOUGHTS", x, 4, 0, 4, 1, 3, 0);
    }

    @Says(promise = 32, value = "Refused: others, 6.")
    static void p32NoThought() {
        Edges.refused(x -> {
            for (int t : Edges.NO_SAYING) {
                Due.is("THOUGHT " + t, x.person(t), -1);
            }
        });
    }

    @Says(promise = 32, value = "Refused: others, 6.")
    static void p32Six() {
        PaidForThinking x = people(Due.with("7"), 0, 1, 2, 3, 4, 0);
        for (int t = -1; t < 6; t++) {
            Due.is("a seventh", x.person(t), -1);
        }
        Due.is("six still", x.count(4), 6);
        x.rest(0);
        Due.row("their THOUGHTS", x, 0, 1, 2, 3, 4, 0);
        Due.is("none is the seventh", x.prize(0, 6, 0), -1);
        x.go();
        Due.is("the first again", x.person(4), 0);
    }

    // ---- promise 33

    @Says(promise = 33, value = "All PEOPLE go (with THE BOOK): how many there were.")
    static void p33NobodyToSix() {
        PaidForThinking x = new PaidForThinking();
        for (int n = 0; n <= 6; n++) {
            people(x, new int[n]);
            Due.is("so many", x.go(), n);
            Due.is("none now", x.count(4), 0);
            Due.is("none were", x.go(), 0);
        }
    }

    @Says(promise = 33, value = "All PEOPLE go (with THE BOOK)")
    static void p33WithTheBook() {
        PaidForThinking x = Edges.filled();
        Due.is("three", x.go(), 3);
        Due.is("no EVENINGS", x.count(5), 0);
        Due.is("none to forget", x.forget(), -1);
        people(x, 2);
        Due.is("none of the new one's", x.paid(0, 0), 0);
        Due.is("none of all", x.meant(1), 0);
    }

    @Says(promise = 33, value = "All PEOPLE go (with THE BOOK)")
    static void p33NothingElseGoes() {
        PaidForThinking x = Edges.filled();
        x.go();
        int[] due = {2, 4, 5, 7, 0, 0, 11, 4, 3};
        for (int what = 0; what < 9; what++) {
            Due.is("count(" + what + ")", x.count(what), due[what]);
        }
        Due.row("the ROW", x, 1, 0, 8, 1);
        Due.is("what was kept", x.again(0), true);
        Due.is("what was kept", x.count(4), 2);
        Due.is("what was kept", x.count(5), 3);
    }

    // ---- promise 34

    @Says(promise = 34, value = "goes to those whose PAY for the EVENT is the greatest, in even parts")
    static void p34OneToSix() {
        int[] due = {240, 120, 80, 60, 48, 40};
        PaidForThinking x = Due.with("7");
        for (int n = 1; n <= 6; n++) {
            people(x, new int[n]);
            Due.is("of " + n, x.prize(0, 0, 3), due[n - 1]);
            Due.is("of " + n, x.prize(0, n - 1, 3), due[n - 1]);
            x.go();
        }
    }

    @Says(promise = 34, value = "the sum over EVENTS of its own THOUGHT's PART times its parts.")
    static void p34NothingAtAll() {
        PaidForThinking x = people(Due.with("q"), 4, 4);
        Due.is("(0, 4) for one who thinks (4, 0)", x.prize(0, 0, 0), 0);
        Due.is("(3, 1)", x.prize(0, 1, 3), 0);
        Due.is("the truth", x.prize(0, 1, 4), 120);
    }

    @Says(promise = 34, value = "the sum over EVENTS of its own THOUGHT's PART times its parts.")
    static void p34ItsOwnThought() {
        PaidForThinking x = people(Due.with("q"), 1, 3);
        Due.is("what is said for both EVENTS", x.prize(0, 0, 4), 60);
        Due.is("what is said for both EVENTS", x.prize(0, 1, 4), 180);
        Due.is("one equal, one less", x.prize(0, 1, 1), 30 * 4);
    }

    @Says(promise = 34, value = "whose PAY for the EVENT is the greatest")
    static void p34TheEndsOfInts() {
        // the greatest int for all STEPS, else the least one
        PaidForThinking x = people(Due.with("8192*8192*32-(q=4)"), 4, 4);
        Due.is("the greatest against the greatest", x.prize(0, 0, 4), 120);
        Due.is("the least against the greatest", x.prize(0, 0, 3), 0);
        x.go();
        people(x, 4, 0);
        Due.is("the greatest against the least", x.prize(0, 0, 4), 240);
        Due.is("the least against the least", x.prize(0, 0, 3), 120);
    }

    @Says(promise = 34, value = "the sum over EVENTS of its own THOUGHT's PART times its parts.")
    static void p34FourEvents() {
        PaidForThinking x = Due.with("q");
        x.table(4, 4);
        people(x, x.saying(1, 1, 1, 1), x.saying(0, 1, 2, 1));
        Due.is("60, 30, 0, 30", x.prize(0, 0, x.saying(1, 1, 1, 1)), 120);
        Due.is("EVENT 3 alone", x.prize(0, 0, x.saying(0, 0, 0, 4)), 30 + 60);
    }

    @Says(promise = 34, value = "NONE: others, nobody.")
    static void p34NoPayOrSaying() {
        Edges.refused(x -> {
            for (int p : Edges.NO_PAY) {
                Due.is("PAY " + p, x.prize(p, 0, 0), -1);
            }
            for (int s : Edges.NO_SAYING) {
                Due.is("SAYING " + s, x.prize(0, 0, s), -1);
            }
        });
    }

    @Says(promise = 34, value = "NONE: others, nobody.")
    static void p34Nobody() {
        Edges.refused(x -> {
            for (int who : Edges.NOBODY) {
                Due.is("who " + who, x.prize(0, who, 0), -1);
            }
        });
        PaidForThinking x = Due.with("7");
        Due.is("no PEOPLE", x.prize(0, 0, 0), -1);
        people(x, 0);
        x.go();
        Due.is("gone", x.prize(0, 0, 0), -1);
    }

    // ---- promise 35

    @Says(promise = 35, value = "The SAYING by which that is the greatest")
    static void p35FirstOrLast() {
        PaidForThinking x = people(Due.with("2*d*q-s"), 2, 3, 1);
        Due.is("the first SAYING", x.boast(0, 0), 0);
        Due.row("the first SAYING", x, 120, 0, 2);
        PaidForThinking y = people(Due.with("q"), 3, 3, 3);
        Due.is("the last SAYING", y.boast(0, 2), 4);
        Due.row("the last SAYING", y, 180, 80, 1);
        PaidForThinking z = people(Due.with("q"), 4);
        Due.is("alone", z.boast(0, 0), 4);
        Due.row("alone", z, 240, 240, 0);
    }

    @Says(promise = 35, value = "of equal ones the truth, else the first: it")
    static void p35TheTruthOfEqualOnes() {
        PaidForThinking x = people(Due.with("7", "2*d*q-s"), 3, 1);
        Due.is("all are equal", x.boast(0, 0), 3);
        Due.row("all are equal", x, 120, 120, 0);
        Due.is("the truth is as good", x.boast(1, 1), 1);
        Due.row("the truth is as good", x, 180, 180, 0);
    }

    @Says(promise = 35, value = "of equal ones the truth, else the first: it")
    static void p35TheFirstOfEqualOnes() {
        PaidForThinking x = people(Due.with("-q"), 4, 2);
        // (0, 4) and (1, 3) have more for EVENT 0 than (2, 2)
        Due.is("the first of two", x.boast(0, 0), 0);
        Due.row("the first of two", x, 240, 0, 4);
    }

    @Says(promise = 35, value = "how many PARTS (half of the sum of differences) it is off the truth.")
    static void p35OffTheTruth() {
        PaidForThinking x = people(Due.with("q"), 1, 1);
        Due.is("one PART off", x.boast(0, 0), 0);
        Due.row("one PART off", x, 180, 120, 1);
        x.table(3, 12);
        int thought = x.saying(11, 0, 1, 0);
        people(x, thought, x.saying(11, 1, 0, 0));
        Due.is("(12, 0, 0)", x.boast(0, 0), x.saying(12, 0, 0, 0));
        Due.row("one PART off, of three EVENTS", x, 11 * 60 + 30, 11 * 30 + 60, 1);
        Due.tell(x, 0, "-q");
        x.go();
        people(x, x.saying(12, 0, 0, 0), x.saying(1, 11, 0, 0));
        Due.is("(0, 0, 12)", x.boast(0, 0), 0);
        Due.row("all of twelve", x, 720, 0, 12);
    }

    @Says(promise = 35, value = "how many PARTS (half of the sum of differences) it is off the truth.")
    static void p35OfFourEvents() {
        PaidForThinking x = Due.with("-q");
        x.table(4, 3);
        people(x, x.saying(0, 0, 0, 3), x.saying(1, 1, 0, 1));
        Due.is("(0, 0, 3, 0)", x.boast(0, 0), 3);
        Due.row("(0, 0, 3, 0)", x, 180, 0, 3);
    }

    @Says(promise = 35, value = "NONE: others.")
    static void p35Others() {
        Edges.refused(x -> {
            for (int p : Edges.NO_PAY) {
                Due.is("PAY " + p, x.boast(p, 0), -1);
            }
            for (int who : Edges.NOBODY) {
                Due.is("who " + who, x.boast(0, who), -1);
            }
        });
        Due.is("no PEOPLE", Due.with("7").boast(0, 0), -1);
    }

    // ---- promise 36

    private static void rests(String text, int events, int steps, int[] thoughts, int due, long... row) {
        PaidForThinking x = Due.with(text);
        x.table(events, steps);
        people(x, thoughts);
        x.mean(0, 0, 0);
        Due.is(text, x.rest(0), due);
        Due.row(text, x, row);
    }

    @Says(promise = 36, value = "till a whole round changes nothing")
    static void p36AtOnce() {
        rests("q", 2, 4, new int[] {1}, 0, 1);
        rests("7", 2, 4, new int[] {0, 1, 2, 3, 4, 0}, 0, 0, 1, 2, 3, 4, 0);
        rests("2*d*q-s", 2, 4, new int[] {2, 3}, 0, 2, 3);
    }

    @Says(promise = 36, value = "of equal ones what they say already, else the first")
    static void p36OfEqualOnes() {
        // the first says (0, 4), not (1, 3); the second (3, 1), not (4, 0), then (0, 4), not (4, 0);
        // the third (4, 0), and that still when (1, 3) is as good
        rests("-q", 2, 4, new int[] {4, 2, 2}, 2, 0, 0, 4);
        rests("2*d*q-s", 2, 4, new int[] {2, 3, 1}, 2, 4, 4, 0);
    }

    @Says(promise = 36, value = "how many rounds changed something")
    static void p36HowMany() {
        PaidForThinking x = Due.with("q*(d-q)");
        x.table(2, 2);
        people(x, 1, 0);
        Due.is("one", x.rest(0), 1);
        rests("2*d*q-s", 3, 7, new int[] {28, 32, 21, 23, 19}, 19, 35, 35, 0, 0, 7);
    }

    @Says(promise = 36, value = "the ROW: what each says then.")
    static void p36OneToSix() {
        rests("-q", 2, 4, new int[] {3}, 0, 3);
        rests("q", 2, 4, new int[] {4, 0, 4, 0, 4, 0}, 0, 4, 0, 4, 0, 4, 0);
        rests("q", 2, 4, new int[] {3, 0, 4, 0, 4, 1}, 1, 4, 0, 4, 0, 4, 0);
    }

    @Says(promise = 36, value = "-2: 20 do not do (the ROW stays)")
    static void p36NeverAtRest() {
        rests("q", 3, 3, new int[] {5, 1}, -2, 3, 1);
        rests("q*4-s", 2, 7, new int[] {3, 5, 0}, -2, -21, 1);
    }

    @Says(promise = 36, value = "or 20 rounds are gone through")
    static void p36The21stWouldChangeNothing() {
        rests("2*d*q-s", 3, 6, new int[] {20, 19, 16, 9}, -2, 36, 1);
    }

    @Says(promise = 36, value = "From the truth on PEOPLE in order, round and round")
    static void p36TheTruthStays() {
        PaidForThinking x = people(Due.with("2*d*q-s"), 2, 3, 1);
        Due.is("two rounds", x.rest(0), 2);
        Due.is("and again, from the truth on", x.rest(0), 2);
        Due.row("and again", x, 4, 4, 0);
        Due.is("others think what they thought", x.boast(0, 0), 0);
    }

    @Says(promise = 36, value = "NONE: nobody, others.")
    static void p36Nobody() {
        PaidForThinking x = Due.with("q");
        x.mean(0, 1, 1);
        Due.is("nobody", x.rest(0), -1);
        Due.row("the ROW stays", x, 5, 2);
        people(x, 1);
        x.go();
        Due.is("gone", x.rest(0), -1);
    }

    @Says(promise = 36, value = "NONE: nobody, others.")
    static void p36NoPay() {
        Edges.refused(x -> {
            for (int p : Edges.NO_PAY) {
                Due.is("PAY " + p, x.rest(p), -1);
            }
        });
    }

    // ---- promise 37

    private static void agree(String text, int one, int other, int due, long least) {
        PaidForThinking x = Due.with(text);
        Due.is(text, x.agree(0, one, other), due);
        Due.row(text, x, least);
    }

    @Says(promise = 37, value = "of equal ones the first: it")
    static void p37OfEqualOnesTheFirst() {
        agree("7", 3, 1, 0, 0);
        agree("q", 0, 1, 0, -1);
        agree("q", 3, 4, 3, -1);
    }

    @Says(promise = 37, value = "the ROW: that least (below 0 it may be).")
    static void p37AboveAndBelow0() {
        agree("2*d*q-s", 0, 4, 2, 16);
        agree("2*d*q-s", 2, 2, 2, 0);
        agree("q", 0, 3, 1, -1);
    }

    @Says(promise = 37, value = "whatever EVENT comes")
    static void p37TheLastEventToo() {
        PaidForThinking x = Due.with("-e*q");
        x.table(3, 2);
        Due.is("(2, 0, 0)", x.agree(0, 0, 1), 3);
        Due.row("by EVENT 0 and by 1 nothing more", x, 0);
    }

    @Says(promise = 37, value = "by how much the two together have more at least")
    static void p37NotAsInts() {
        agree("8192*8192*31*((q=4)-(q=0)-(q=2))", 2, 2, 1, 2 * Edges.HUGE);
    }

    @Says(promise = 37, value = "NONE: others.")
    static void p37Others() {
        Edges.refused(x -> {
            for (int p : Edges.NO_PAY) {
                Due.is("PAY " + p, x.agree(p, 0, 0), -1);
            }
            for (int t : Edges.NO_SAYING) {
                Due.is("THOUGHT " + t, x.agree(0, t, 0), -1);
                Due.is("other THOUGHT " + t, x.agree(0, 0, t), -1);
            }
        });
    }

    // ---- promise 38

    private static void gain(String text, int due, long... row) {
        PaidForThinking x = Due.with(text);
        x.mean(0, 0, 0);
        Due.is(text, x.gain(0), due);
        Due.row(text, x, row);
    }

    @Says(promise = 38, value = "the ROW: the first pair (none without).")
    static void p38NoneWithout() {
        gain("7", 0);
        gain("q", 0);
    }

    @Says(promise = 38, value = "(the one with the less number first, unlike)")
    static void p38EachPairOnce() {
        gain("2*d*q-s", 6, 0, 2);
        // the first SAYING alone has more than all: 10 pairs are all that are unlike
        gain("(q=0)*(1-e)+(q=4)*e", 10, 0, 1);
    }

    @Says(promise = 38, value = "can so gain more than 0 for sure")
    static void p38MoreThan0() {
        // by (2, 2) those of (0, 4) and (4, 0), of (1, 3) and (3, 1); of (0, 4) and (3, 1) just 0
        gain("2*q+(q=2)", 2, 0, 4);
    }

    @Says(promise = 38, value = "-3: there are more than 91 SAYINGS")
    static void p38MoreThan91() {
        PaidForThinking x = Due.with("2*d*q-s");
        Due.is("91", x.table(3, 12), 91);
        Due.is("91 are not more", x.gain(0), 2784);
        Due.row("91", x, 0, 2);
        Due.is("84", x.table(4, 6), 84);
        Due.is("84 are not more", x.gain(0) > 0, true);
        x.mean(0, 0, 0);
        Due.is("120", x.table(4, 7), 120);
        Due.is("120 are more", x.gain(0), -3);
        Due.is("455", x.table(4, 12), 455);
        Due.is("455 are more", x.gain(0), -3);
        Due.row("the ROW stays", x, 36, 1);
    }

    @Says(promise = 38, value = "NONE.")
    static void p38NoPay() {
        Edges.refused(x -> {
            for (int p : Edges.NO_PAY) {
                Due.is("PAY " + p, x.gain(p), -1);
            }
        });
        PaidForThinking x = Due.with("7");
        x.table(4, 7);
        Due.is("of 120 too", x.gain(1), -1);
    }

    // ---- promise 39

    private static void peers(String text, int one, int other, int due, long... row) {
        PaidForThinking x = Due.with(text);
        Due.is(text, x.peers(0, one, other), due);
        Due.row(text, x, row);
    }

    @Says(promise = 39, value = "of which the other one says the most (the first such)")
    static void p39TheFirstSuch() {
        // (2, 2) is paid for by EVENT 0
        peers("x", 2, 1, 13, 0, 0, 5, 0);
        PaidForThinking x = Due.with("x");
        x.table(3, 2);
        // who is against (0, 1, 1) is paid by EVENT 1, who is against (1, 0, 1) by EVENT 0
        x.peers(0, x.saying(0, 1, 1, 0), x.saying(0, 2, 0, 0));
        Due.is("(0, 1, 1) and (0, 2, 0)", x.row(3), 1);
        x.peers(0, x.saying(0, 1, 1, 0), x.saying(1, 0, 1, 0));
        Due.is("(0, 1, 1) and (1, 0, 1)", x.row(3), 0);
        x.peers(0, x.saying(0, 1, 1, 0), x.saying(0, 0, 2, 0));
        Due.is("(0, 1, 1) and (0, 0, 2)", x.row(3), 0);
    }

    @Says(promise = 39, value = "pairs of SAYINGS from which neither could change alone for more: how many")
    static void p39All() {
        peers("7", 3, 1, 25, 0, 0, 5, 1);
        peers("8192*8192*32", 3, 1, 25, 0, 0, 5, 1);
    }

    @Says(promise = 39, value = "in how many both say one and the same SAYING")
    static void p39NoneBothSayTheSame() {
        peers("q=1", 1, 3, 2, 1, 3, 0, 1);
        peers("q=1", 3, 1, 2, 1, 3, 0, 1);
        peers("q=1", 1, 1, 2, 1, 3, 0, 0);
    }

    @Says(promise = 39, value = "pairs of SAYINGS from which neither could change alone for more: how many")
    static void p39EachByItsOwnEvent() {
        // the most is 1 for the one EVENT and 2 for the other
        peers("(q=1)*(1+e)", 1, 3, 2, 1, 3, 0, 1);
        peers("(q=1)*(1+e)", 3, 1, 2, 1, 3, 0, 1);
        peers("(q=1)*(2-e)", 1, 3, 2, 1, 3, 0, 1);
        peers("(q=1)*(2-e)", 3, 1, 2, 1, 3, 0, 1);
    }

    @Says(promise = 39, value = "1 if both saying a THOUGHT each, told, is one of these (else 0).")
    static void p39BothSayingAThought() {
        peers("2*d*q-s", 0, 4, 2, 0, 0, 2, 0);
        peers("2*d*q-s", 4, 4, 2, 0, 0, 2, 1);
        peers("2*d*q-s", 0, 0, 2, 0, 0, 2, 1);
    }

    /**
     * Without any pair NONE, NONE would be told, but there is always one: a PAY does not ask of which other
     * EVENT a PART is. If what is greatest for EVENT 0 says the most of it, both say it; so for EVENT 1. Else
     * something greatest for EVENT 0 says the most of EVENT 1, and something greatest for 1 the most of 0:
     * these are a pair.
     */
    @Says(promise = 39, value = "the ROW: the first pair (NONE, NONE without)")
    static void p39NeverWithout() {
        String[] texts = {"-q", "q=0", "e*q-s", "(q=0)*(e=0)+(q=1)*(e=1)-m", "u-t*(e+1)", "x*(q=1)-e*q", "-x"};
        for (String text : texts) {
            for (int events = 2; events <= 4; events++) {
                PaidForThinking x = Due.with(text);
                x.table(events, 3);
                int pairs = x.peers(0, 0, 0);
                Due.is(text, pairs > 0, true);
                Due.is(text + ": a first pair", x.row(0) >= 0 && x.row(1) >= 0, true);
                int one = (int) x.row(0);
                int other = (int) x.row(1);
                x.peers(0, one, other);
                Due.is(text + ": it is one of these", x.row(3), 1);
            }
        }
    }

    @Says(promise = 39, value = "-3: there are more than 91 SAYINGS")
    static void p39MoreThan91() {
        PaidForThinking x = Due.with("2*d*q-s");
        Due.is("91", x.table(3, 12), 91);
        Due.is("91 are not more", x.peers(0, 90, 90), 3);
        Due.row("91", x, 0, 0, 3, 1);
        Due.is("120", x.table(4, 7), 120);
        Due.is("120 are more", x.peers(0, 0, 0), -3);
        Due.is("455", x.table(4, 12), 455);
        Due.is("455 are more", x.peers(0, 454, 454), -3);
        Due.row("the ROW stays", x, 0, 0, 3, 1);
    }

    @Says(promise = 39, value = "NONE: others.")
    static void p39Others() {
        Edges.refused(x -> {
            for (int p : Edges.NO_PAY) {
                Due.is("PAY " + p, x.peers(p, 0, 0), -1);
            }
            for (int s : Edges.NO_SAYING) {
                Due.is("SAYING " + s, x.peers(0, s, 0), -1);
                Due.is("other SAYING " + s, x.peers(0, 0, s), -1);
            }
        });
    }

    @Says(promise = 39, value = "NONE: others.")
    static void p39OthersOf120() {
        PaidForThinking x = Due.with("7");
        x.table(4, 7);
        Due.is("no PAY", x.peers(1, 0, 0), -1);
        for (int s : new int[] {-1, 120, MIN, MAX}) {
            Due.is("SAYING " + s, x.peers(0, s, 0), -1);
            Due.is("other SAYING " + s, x.peers(0, 0, s), -1);
        }
    }

    public static void main(String[] args) {
        Edges.run(EdgeSeveralTest.class);
    }
}
