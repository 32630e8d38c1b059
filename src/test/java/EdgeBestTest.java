/** A test for each sentence of promises 12 to 19 that names an edge. */
public final class EdgeBestTest {
    private static final long HUGE = Edges.HUGE;

    private EdgeBestTest() {
    }

    // ---- promise 12

    private static void mean(String text, int saying, int thought, long upper, long lower) {
        PaidForThinking x = Due.with(text);
        Due.is(text, x.mean(0, saying, thought), 0);
        Due.row(text, x, upper, lower);
    }

    @Says(promise = 12, value = "the ROW: the fraction. 0")
    static void p12LowestTerms() {
        mean("q", 3, 1, 3, 2);
        mean("q", 4, 1, 1, 1);
        mean("q", 4, 0, 0, 1);
        mean("-q", 3, 1, -3, 2);
        mean("-q", 4, 3, -3, 1);
    }

    @Says(promise = 12, value = "The MEAN of a SAYING by a PAY for a THOUGHT")
    static void p12NotAsInts() {
        mean("(8192*8192*31+1)*(e=0)", 0, 3, 3 * (HUGE + 1), 4);
        mean("8192*8192*32*(e=0)+(e=1)", 0, 3, 3L * Edges.MIN + 1, 4);
    }

    @Says(promise = 12, value = "NONE: others.")
    static void p12NoPay() {
        Edges.refused(x -> {
            for (int p : Edges.NO_PAY) {
                Due.is("PAY " + p, x.mean(p, 0, 0), -1);
            }
        });
    }

    @Says(promise = 12, value = "NONE: others.")
    static void p12NoSaying() {
        Edges.refused(x -> {
            for (int s : Edges.NO_SAYING) {
                Due.is("SAYING " + s, x.mean(0, s, 0), -1);
            }
        });
    }

    @Says(promise = 12, value = "NONE: others.")
    static void p12NoThought() {
        Edges.refused(x -> {
            for (int t : Edges.NO_SAYING) {
                Due.is("THOUGHT " + t, x.mean(0, 0, t), -1);
            }
        });
    }

    // ---- promise 13

    @Says(promise = 13, value = "How many SAYINGS are BEST by a PAY for a THOUGHT")
    static void p13FromOneToAll() {
        PaidForThinking x = Due.with("2*d*q-s", "q", "q>0");
        Due.is("one", x.best(0, 4), 1);
        Due.row("one", x, 4);
        Due.is("three", x.best(2, 2), 3);
        Due.row("three", x, 1, 2, 3);
        Due.is("all", x.best(1, 2), 5);
        Due.row("all", x, 0, 1, 2, 3, 4);
    }

    @Says(promise = 13, value = "the ROW: the first 10 of them.")
    static void p13TheFirstTen() {
        PaidForThinking x = Due.with("7", "q>0");
        x.table(2, 8);
        Due.is("nine", x.best(0, 0), 9);
        Due.row("nine", x, 0, 1, 2, 3, 4, 5, 6, 7, 8);
        x.table(2, 9);
        Due.is("ten", x.best(0, 0), 10);
        Due.row("ten", x, 0, 1, 2, 3, 4, 5, 6, 7, 8, 9);
        x.table(2, 10);
        Due.is("eleven", x.best(0, 0), 11);
        Due.row("ten of eleven", x, 0, 1, 2, 3, 4, 5, 6, 7, 8, 9);
        x.table(2, 12);
        Due.is("eleven of thirteen", x.best(1, 6), 11);
        Due.row("ten of them, but the first", x, 1, 2, 3, 4, 5, 6, 7, 8, 9, 10);
        x.table(4, 12);
        Due.is("all 455", x.best(0, 454), 455);
        Due.row("ten of 455", x, 0, 1, 2, 3, 4, 5, 6, 7, 8, 9);
    }

    @Says(promise = 13, value = "How many SAYINGS are BEST by a PAY for a THOUGHT")
    static void p13NotAsInts() {
        PaidForThinking x = Due.with("8192*8192*31*(q=4)");
        Due.is("four times that is the most", x.best(0, 4), 1);
        Due.row("four times that is the most", x, 4);
    }

    @Says(promise = 13, value = "NONE: others.")
    static void p13Others() {
        Edges.refused(x -> {
            for (int p : Edges.NO_PAY) {
                Due.is("PAY " + p, x.best(p, 0), -1);
            }
            for (int t : Edges.NO_SAYING) {
                Due.is("THOUGHT " + t, x.best(0, t), -1);
            }
        });
    }

    // ---- promise 14

    private static void loses(String text, int saying, int thought, long upper, long lower) {
        PaidForThinking x = Due.with(text);
        Due.is(text, x.loses(0, saying, thought), 0);
        Due.row(text, x, upper, lower);
    }

    @Says(promise = 14, value = "the MEAN of the BEST less its MEAN")
    static void p14NothingAtAll() {
        loses("2*d*q-s", 3, 3, 0, 1);
        loses("q", 0, 2, 0, 1);
        loses("-q", 4, 0, 0, 1);
        loses("-7", 1, 2, 0, 1);
    }

    @Says(promise = 14, value = "the ROW: the fraction. 0")
    static void p14LowestTerms() {
        loses("q", 3, 3, 1, 2);
        loses("2*d*q-s", 4, 3, 2, 1);
        loses("2*d*q-s", 0, 4, 32, 1);
        loses("e*(q=4)", 1, 1, 3, 4);
    }

    @Says(promise = 14, value = "the MEAN of the BEST less its MEAN")
    static void p14NotAsInts() {
        loses("8192*8192*31*(2*(q=4)-1)", 0, 4, 2 * HUGE, 1);
    }

    @Says(promise = 14, value = "NONE: others.")
    static void p14NoPay() {
        Edges.refused(x -> {
            for (int p : Edges.NO_PAY) {
                Due.is("PAY " + p, x.loses(p, 0, 0), -1);
            }
        });
    }

    @Says(promise = 14, value = "NONE: others.")
    static void p14NoSayingOrThought() {
        Edges.refused(x -> {
            for (int s : Edges.NO_SAYING) {
                Due.is("SAYING " + s, x.loses(0, s, 0), -1);
                Due.is("THOUGHT " + s, x.loses(0, 0, s), -1);
            }
        });
    }

    // ---- promise 15

    private static void truly(int steps, String text, int due, long... row) {
        PaidForThinking x = Due.with(text);
        x.table(2, steps);
        x.mean(0, 0, 0);
        Due.is(text, x.truly(0), due);
        Due.row(text, x, row);
    }

    @Says(promise = 15, value = "(empty for 2)")
    static void p15Strict() {
        truly(4, "2*d*q-s", 2);
        truly(12, "2*d*q-s", 2);
        truly(1, "q", 2);
        PaidForThinking x = Due.with("2*d*q-s");
        x.table(4, 12);
        x.mean(0, 0, 0);
        Due.is("455", x.truly(0), 2);
        Due.row("455", x);
    }

    @Says(promise = 15, value = "2 a PAY is STRICT, 1 HONEST alone, 0 not")
    static void p15ByOneAlone() {
        truly(2, "2*d*q-s+(q=1)", 2);
        truly(2, "2*d*q-s+2*(q=1)", 1, 0, 1);
        truly(2, "2*d*q-s+3*(q=1)", 0, 0, 1);
    }

    @Says(promise = 15, value = "for 1 and 0 the first THOUGHT for which it is not STRICT")
    static void p15TheFirstNotStrict() {
        truly(4, "7", 1, 0, 1);
        truly(2, "2*d*q-s-2*(q=1)", 1, 1, 0);
        truly(2, "2*d*q-s+2*(q=1)*(1-e)", 1, 2, 1);
    }

    @Says(promise = 15, value = "(not HONEST), and the first other SAYING that is BEST then")
    static void p15TheFirstNotHonest() {
        truly(4, "q", 0, 1, 0);
        // for THOUGHT (0, 4) it is BEST, but not alone
        truly(4, "x", 0, 1, 2);
        truly(4, "-q", 0, 0, 4);
        truly(2, "2*d*q-s+3*(q=1)*(1-e)", 0, 2, 1);
    }

    @Says(promise = 15, value = "the first other SAYING that is BEST then")
    static void p15TheFirstOther() {
        // 0, 2 and 4 are BEST for all
        truly(4, "1-(q=1)-(q=3)", 0, 1, 0);
        truly(4, "q>0", 1, 0, 1);
        // for THOUGHT (1, 1) all three
        truly(2, "2*d*q-s-2*(q=1)", 1, 1, 0);
        truly(1, "7", 1, 0, 1);
    }

    @Says(promise = 15, value = "NONE.")
    static void p15NoPay() {
        Edges.refused(x -> {
            for (int p : Edges.NO_PAY) {
                Due.is("PAY " + p, x.truly(p), -1);
            }
        });
    }

    // ---- promise 16

    private static void bends(int steps, String text, int due, long thought, long much) {
        PaidForThinking x = Due.with(text);
        x.table(2, steps);
        Due.is(text, x.bends(0), due);
        Due.row(text, x, thought, much);
    }

    @Says(promise = 16, value = "(of equal ones the first; NONE, if none)")
    static void p16None() {
        bends(4, "2*d*q-s", 0, -1, 0);
        bends(4, "7", 0, -1, 0);
    }

    @Says(promise = 16, value = "(of equal ones the first; NONE, if none)")
    static void p16OfEqualOnesTheFirst() {
        bends(4, "q", 2, 1, 2);
        bends(4, "-q", 4, 0, 16);
    }

    @Says(promise = 16, value = "How many THOUGHTS are not BEST for themselves")
    static void p16FirstOrLastAlone() {
        bends(2, "2*d*q-s+3*(q=1)*e", 1, 0, 2);
        bends(2, "2*d*q-s+3*(q=1)*(1-e)", 1, 2, 2);
    }

    @Says(promise = 16, value = "How many THOUGHTS are not BEST for themselves")
    static void p16ByOneAlone() {
        bends(1, "-q", 2, 0, 1);
        bends(4, "(1-e)*(q=4)", 3, 3, 3);
    }

    @Says(promise = 16, value = "How many THOUGHTS are not BEST for themselves")
    static void p16All() {
        bends(4, "8192*8192*31*(2*(q=0)-1)", 5, 0, 8 * HUGE);
    }

    @Says(promise = 16, value = "NONE.")
    static void p16NoPay() {
        Edges.refused(x -> {
            for (int p : Edges.NO_PAY) {
                Due.is("PAY " + p, x.bends(p), -1);
            }
        });
    }

    // ---- promise 17

    private static void could(String text, int saying, int due, long... row) {
        PaidForThinking x = Due.with(text);
        x.mean(0, 0, 0);
        Due.is(text, x.could(0, saying), due);
        Due.row(text, x, row);
    }

    @Says(promise = 17, value = "the ROW: the first, the last (none without).")
    static void p17NoneWithout() {
        could("1-(q=1)-(q=3)", 3, 0);
        could("-(q=0)", 4, 1, 4, 4);
    }

    @Says(promise = 17, value = "the ROW: the first, the last (none without).")
    static void p17OneIsFirstAndLast() {
        could("2*d*q-s", 0, 1, 0, 0);
        could("2*d*q-s", 2, 1, 2, 2);
        could("2*d*q-s", 4, 1, 4, 4);
    }

    @Says(promise = 17, value = "the ROW: the first, the last (none without).")
    static void p17Some() {
        could("q", 0, 3, 0, 2);
        could("q", 4, 3, 2, 4);
        could("7", 3, 5, 0, 4);
    }

    @Says(promise = 17, value = "THOUGHTS for which a SAYING is BEST by a PAY: how many")
    static void p17OfEqualOnesEach() {
        // for (2, 2) all are BEST
        could("q", 1, 1, 2, 2);
        could("q", 3, 1, 2, 2);
        could("1-(q=1)-(q=3)", 2, 5, 0, 4);
    }

    @Says(promise = 17, value = "NONE: others.")
    static void p17Others() {
        Edges.refused(x -> {
            for (int p : Edges.NO_PAY) {
                Due.is("PAY " + p, x.could(p, 0), -1);
            }
            for (int s : Edges.NO_SAYING) {
                Due.is("SAYING " + s, x.could(0, s), -1);
            }
        });
    }

    // ---- promise 18

    private static void same(String one, String other, int due) {
        PaidForThinking x = Due.with(one, other);
        Due.is(one + " and " + other, x.same(0, 1), due);
        Due.is(other + " and " + one, x.same(1, 0), due);
    }

    @Says(promise = 18, value = "Whether two PAYS differ for each EVENT by one number alone, whatever is said")
    static void p18ByANumberForEachEvent() {
        same("q", "q", 1);
        same("q", "q+7", 1);
        same("q", "q+7*e", 1);
        same("q", "q+9-7*e", 1);
        same("7", "e", 1);
        same("q", "2*q", 0);
    }

    @Says(promise = 18, value = "Whether two PAYS differ for each EVENT by one number alone, whatever is said")
    static void p18InOnePlaceAlone() {
        same("q", "q+(q=4)*e", 0);
        same("q", "q+(q=4)*(1-e)", 0);
        same("q", "q+(q=0)*(1-e)", 0);
        same("q", "q+(q=0)*e", 0);
        same("q", "q+(q=2)*e", 0);
        same("q", "q+(q=1)*(1-e)", 0);
        same("q", "q+(q=3)*(1-e)", 0);
    }

    @Says(promise = 18, value = "Whether two PAYS differ for each EVENT by one number alone, whatever is said")
    static void p18InTheLastPlaceOf455() {
        PaidForThinking x = Due.with("q", "q+(q=12)*(e=3)", "q+(q=12)*(e=0)");
        x.table(4, 12);
        Due.is("EVENT 3 of the first SAYING", x.same(0, 1), 0);
        Due.is("EVENT 0 of the last SAYING", x.same(0, 2), 0);
        Due.is("itself", x.same(2, 2), 1);
    }

    @Says(promise = 18, value = "(so that the same is BEST)")
    static void p18NotAsInts() {
        // 2 to the 31 apart, this way and the other way
        same("8192*8192*16*(2*(q>2)-1)", "8192*8192*16*(1-2*(q>2))", 0);
        same("8192*8192*16+q", "8192*8192*-16+q", 1);
    }

    @Says(promise = 18, value = "NONE: others.")
    static void p18NoPay() {
        Edges.refused(x -> {
            for (int p : Edges.NO_PAY) {
                Due.is("PAY " + p, x.same(p, 0), -1);
                Due.is("PAY " + p, x.same(0, p), -1);
                Due.is("PAY " + p, x.same(p, p), -1);
            }
        });
    }

    // ---- promise 19

    private static void alike(String one, String other, int due, long... row) {
        PaidForThinking x = Due.with(one, other);
        x.mean(0, 0, 0);
        Due.is(one + " and " + other, x.alike(0, 1), due);
        Due.row(one + " and " + other, x, row);
    }

    @Says(promise = 19, value = "a times the one PAY (a 1 .. 20)")
    static void p19From1To20() {
        alike("q", "q+e*5", 1, 1);
        alike("q", "2*q-e*5", 1, 2);
        alike("q", "19*q+1", 1, 19);
        alike("q", "20*q", 1, 20);
    }

    @Says(promise = 19, value = "a times the one PAY (a 1 .. 20)")
    static void p19OutsideOfThese() {
        alike("q", "21*q", 0);
        alike("q", "7", 0);
        alike("q", "-q", 0);
        alike("q", "-20*q", 0);
        alike("2*q", "q", 0);
        alike("2*q", "3*q", 0);
    }

    @Says(promise = 19, value = "with some a: the ROW: the least a.")
    static void p19TheLeast() {
        alike("7", "e", 1, 1);
        alike("0", "0", 1, 1);
    }

    @Says(promise = 19, value = "0: with none (the ROW empty)")
    static void p19TheRowIsEmpty() {
        alike("q", "q*q", 0);
        alike("q", "2*q+(q=4)*e", 0);
        alike("q", "2*q+(q=4)*(1-e)", 0);
    }

    @Says(promise = 19, value = "a times the one PAY (a 1 .. 20) is the other one but for a number for each EVENT")
    static void p19NotAsInts() {
        // twice the one is once around for some SAYINGS: as ints nothing
        alike("8192*8192*32*(q>2)", "7", 0);
    }

    @Says(promise = 19, value = "NONE: others.")
    static void p19NoPay() {
        Edges.refused(x -> {
            for (int p : Edges.NO_PAY) {
                Due.is("PAY " + p, x.alike(p, 0), -1);
                Due.is("PAY " + p, x.alike(0, p), -1);
                Due.is("PAY " + p, x.alike(p, p), -1);
            }
        });
    }

    public static void main(String[] args) {
        Edges.run(EdgeBestTest.class);
    }
}
