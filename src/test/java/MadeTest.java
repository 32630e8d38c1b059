/** Promises 20 to 25: PAYS made of a table and of other PAYS. */
public final class MadeTest {
    private static final int MIN = Integer.MIN_VALUE;
    private static final int MAX = Integer.MAX_VALUE;
    private static final int[] NO_PLACE = {-1, 4, MIN, MAX};

    private MadeTest() {
    }

    /** What a PAY is for all SAYINGS, EVENT 0 and EVENT 1 in turn. */
    private static void payIs(String what, PaidForThinking x, int pay, int... due) {
        for (int i = 0; i < due.length; i++) {
            Due.is(what + ", SAYING " + i / 2 + " EVENT " + i % 2, x.gets(pay, i / 2, i % 2), due[i]);
        }
    }

    private static void turnTo(PaidForThinking x, int... to) {
        for (int i = 0; i < to.length; i++) {
            x.turn(i, to[i]);
        }
    }

    private static void promise20() {
        PaidForThinking x = new PaidForThinking();
        Due.is("20: squares", x.make(0), 1);
        payIs("20: squares", x, 0, -12, 16, -12, 16, -6, 14, -2, 10, 0, 4);
        turnTo(x, 5, 1, 3, 3, 9, -9999);
        Due.is("20: not bent", x.make(3), 0);
        payIs("20: SAYINGS have the PART of EVENT 1 from the greatest on", x, 3,
            -15, 9, -15, 9, 3, 3, -1, 7, 5, -11);
        Due.is("20: there are two", x.count(3), 9);
        x.turn(0, 0);
        payIs("20: TURN as it was", x, 3, -15, 9, -15, 9, 3, 3, -1, 7, 5, -11);
        turnTo(x, 9, 5, 1, 1, 1);
        Due.is("20: bent downwards and straight", x.make(1), 1);
        x.turn(4, 0);
        Due.is("20: not at the end", x.make(1), 0);
        turnTo(x, 0, 5, 6, 7, 8);
        Due.is("20: not at the beginning", x.make(1), 0);
        x.best(3, 0);
        for (int i : NO_PLACE) {
            Due.is("20: no such PAY", x.make(i), -1);
        }
        x.table(2, 1);
        turnTo(x, 7, -4, -9999);
        Due.is("20: one STEP", x.make(2), 1);
        payIs("20: one STEP", x, 2, 7, -4, 7, -4);
        x.table(2, 12);
        x.sheet(3, 0, 0, 0);
        Due.is("20: twelve STEPS", x.make(2), 1);
        Due.is("20: at all STEPS the last D", x.gets(2, 0, 1), 144);
        Due.is("20: at all STEPS the last D", x.gets(2, 0, 0), 144 - 12 * 23);
        Due.is("20: one less has the same D", x.gets(2, 1, 1), 121 + 23);
        x.turn(12, 100);
        Due.is("20: the last one counts", x.make(2), 0);
        x.table(3, 2);
        Due.is("20: three EVENTS", x.make(0), -1);
        x.table(4, 2);
        Due.is("20: four EVENTS", x.make(0), -1);
        Due.is("20: none is made", x.count(3), 0);
        Due.row("20: no ROW is told", x, 0, 1);
    }

    private static void promise21() {
        PaidForThinking x = Due.with("2*d*q-s", "q", "8192*8192*31*(q=4)*e");
        Due.is("21: back", x.back(0), 1);
        Due.row("21: back", x, 64, 40, 32, 40, 64);
        Due.is("21: back", x.back(1), 1);
        Due.row("21: back", x, 16, 12, 8, 12, 16);
        Due.is("21: by PARTS of EVENT 1", x.back(2), 1);
        Due.row("21: by PARTS of EVENT 1", x, 0, 2080374784L, 2 * 2080374784L, 3 * 2080374784L, 4 * 2080374784L);
        x.mean(1, 0, 0);
        for (int p : NO_PLACE) {
            Due.is("21: no PAY", x.back(p), -1);
        }
        Due.is("21: none told", x.back(3), -1);
        Due.row("21: the ROW stays", x, 4, 1);
        x.table(2, 12);
        Due.is("21: twelve STEPS", x.back(1), 1);
        Due.row("21: twelve STEPS", x, 144, 132, 120, 108, 96, 84, 72, 84, 96, 108, 120, 132, 144);
        x.table(2, 1);
        Due.is("21: one STEP", x.back(1), 1);
        Due.row("21: one STEP", x, 1, 1);
        x.table(3, 2);
        Due.is("21: three EVENTS", x.back(1), -1);
        Due.row("21: three EVENTS", x, 1, 1);
    }

    private static void turnIs(String what, PaidForThinking x, int... due) {
        for (int at = 0; at <= 12; at++) {
            int v = at < due.length ? due[at] : at * at;
            Due.is(what + " at " + at, x.turn(at, v), v);
        }
    }

    private static void promise22() {
        PaidForThinking x = Due.with("q", "2*e-2", "9999+e", "e-9999-1");
        x.best(0, 0);
        Due.is("22: take", x.take(0), true);
        turnIs("22: by STEPS, those behind stay", x, 4, 3, 2, 3, 4);
        Due.is("22: below 0", x.take(1), true);
        turnIs("22: cut to 0", x, -2, -1, -1, 0, 0);
        Due.is("22: above 9999", x.take(2), false);
        Due.is("22: below -9999 for PART 0", x.take(3), false);
        Due.tell(x, 3, "0-9999-e");
        Due.is("22: below -9999 for all of them", x.take(3), false);
        turnIs("22: refused ones change nothing", x, -2, -1, -1, 0, 0);
        Due.is("22: 9999", Due.tell(x, 2, "9999"), 0);
        Due.is("22: 9999", x.take(2), true);
        turnIs("22: 9999", x, 9999, 9999, 9999, 9999, 9999);
        Due.tell(x, 3, "0-9999");
        Due.is("22: -9999", x.take(3), true);
        turnIs("22: -9999", x, -9999, -9999, -9999, -9999, -9999);
        Due.tell(x, 3, "t");
        Due.is("22: t goes by the new one", x.gets(3, 0, 0), -9999);
        x.take(0);
        Due.is("22: t goes by the new one", x.gets(3, 0, 0), 4);
        Due.row("22: no ROW is told", x, 0);
        x.pay(3);
        Due.is("22: none told", x.take(3), false);
        for (int p : NO_PLACE) {
            Due.is("22: no PAY", x.take(p), false);
        }
        Due.tell(x, 3, "8192*8192*32");
        Due.is("22: far off", x.take(3), false);
        x.table(3, 2);
        Due.is("22: three EVENTS", x.take(0), false);
        turnIs("22: three EVENTS", x, 4, 3, 2, 3, 4);
    }

    private static void promise23() {
        PaidForThinking x = Due.with("q", "e*10+1");
        Due.is("23: mix", x.mix(2, 0, 1, 2, -3), true);
        payIs("23: mix", x, 2, -3, 8 - 33, 2 - 3, 6 - 33, 4 - 3, 4 - 33, 6 - 3, 2 - 33, 8 - 3, -33);
        Due.tell(x, 0, "7");
        payIs("23: as they were", x, 2, -3, -25, -1, -27, 1, -29, 3, -31, 5, -33);
        Due.is("23: itself, twice", x.mix(2, 2, 2, 1, 1), true);
        payIs("23: itself, twice", x, 2, -6, -50, -2, -54, 2, -58, 6, -62, 10, -66);
        Due.is("23: a text over itself", x.mix(1, 1, 0, 1, 1), true);
        payIs("23: a text over itself", x, 1, 8, 18, 8, 18, 8, 18, 8, 18, 8, 18);
        Due.is("23: the ends", x.mix(3, 0, 0, 9, -9), true);
        payIs("23: the ends", x, 3, 0, 0, 0, 0);
        Due.is("23: the other ends", x.mix(3, 0, 1, -9, 9), true);
        payIs("23: the other ends", x, 3, 9 * 1, 9 * 11);
        Due.is("23: they are there", x.count(3), 15);
        Due.is("23: PAY 0", x.mix(0, 0, 1, 1, 0), true);
        Due.tell(x, 0, "8192*8192*31");
        Due.is("23: as ints", x.mix(3, 0, 0, 9, 9), true);
        payIs("23: as ints", x, 3, 18 * 2080374784, 18 * 2080374784);
        Due.tell(x, 0, "7");
        int[][] wrong = {{10, 0}, {-10, 0}, {0, 10}, {0, -10}, {MIN, 0}, {MAX, 0}, {0, MIN}, {0, MAX}};
        for (int[] w : wrong) {
            Due.is("23: refused", x.mix(3, 0, 1, w[0], w[1]), false);
        }
        x.pay(3);
        for (int i : NO_PLACE) {
            Due.is("23: no such PAY", x.mix(i, 0, 1, 1, 1), false);
            Due.is("23: no such PAY", x.mix(2, i, 1, 1, 1), false);
            Due.is("23: no such PAY", x.mix(2, 0, i, 1, 1), false);
        }
        Due.is("23: none told", x.mix(2, 3, 0, 1, 1), false);
        Due.is("23: none told", x.mix(2, 0, 3, 1, 1), false);
        payIs("23: refused ones change nothing", x, 2, -6, -50, -2, -54);
        x.turn(0, 5);
        payIs("23: a MADE one stays with TURN", x, 2, -6, -50, -2, -54);
        Due.is("23: of one that is none yet", x.mix(3, 0, 0, 1, 0), true);
        Due.is("23: gone with the table", x.table(4, 12), 455);
        Due.is("23: gone with the table", x.count(3), 1);
        Due.tell(x, 0, "q*n+e");
        x.mix(1, 0, 0, 2, 1);
        Due.is("23: the last of 455", x.gets(1, 454, 0), 3 * 48);
        Due.is("23: the last EVENT", x.gets(1, 453, 3), 3 * 3);
    }

    private static void promise24() {
        PaidForThinking x = Due.with("2*d*q-s", "e+1", "5-e");
        x.best(0, 3);
        Due.is("24: lift", x.lift(3, 0), 16);
        payIs("24: lift", x, 3, 0, 32, 14, 30, 24, 24, 30, 14, 32, 0);
        Due.is("24: itself", x.lift(2, 2), -4);
        payIs("24: itself", x, 2, 1, 0, 1, 0, 1, 0);
        Due.is("24: PAY 0", x.lift(0, 0), 16);
        payIs("24: PAY 0", x, 0, 0, 32, 14, 30, 24, 24, 30, 14, 32, 0);
        Due.tell(x, 0, "2*d*q-s");
        Due.is("24: NONE may be told so", x.lift(2, 1), -1);
        payIs("24: NONE may be told so", x, 2, 0, 1, 0, 1);
        Due.tell(x, 1, "0-e");
        payIs("24: as it was", x, 2, 0, 1, 0, 1);
        for (int i : NO_PLACE) {
            Due.is("24: no such PAY", x.lift(i, 0), -1);
            Due.is("24: no such PAY", x.lift(2, i), -1);
        }
        x.pay(1);
        Due.is("24: none told", x.lift(2, 1), -1);
        payIs("24: refused ones change nothing", x, 2, 0, 1, 0, 1);
        Due.tell(x, 1, "e*8192*8192*32+(1-e)");
        Due.is("24: as ints", x.lift(2, 1), MIN);
        payIs("24: as ints", x, 2, MIN + 1, 0, MIN + 1, 0);
        Due.row("24: no ROW is told", x, 3);
        x.table(3, 2);
        Due.is("24: a MADE one goes with the table", x.count(3), 3);
        Due.tell(x, 0, "e-3");
        Due.is("24: three EVENTS", x.lift(3, 0), 3);
        Due.is("24: three EVENTS", x.gets(3, 5, 2), 2);
    }

    private static void promise25() {
        PaidForThinking x = Due.with("2*d*q-s", "7", "8192*8192*31*(q=2)");
        int[] order = {3, 2, 4, 1, 0};
        long[] worth = {40, 32, 32, 8, -32};
        for (int k = 0; k < 5; k++) {
            Due.is("25: number " + k, x.rank(0, 3, k), order[k]);
            Due.row("25: number " + k, x, worth[k]);
            Due.is("25: all equal", x.rank(1, 3, k), k);
            Due.row("25: all equal", x, 28);
        }
        x.rank(2, 2, 0);
        Due.row("25: more than an int", x, 4 * 2080374784L);
        Due.is("25: not so many", x.rank(0, 3, 5), -2);
        Due.is("25: not so many", x.rank(0, 3, MAX), -2);
        Due.is("25: NONE is asked ahead", x.rank(0, 5, 5), -1);
        Due.is("25: NONE is asked ahead", x.rank(3, 0, 5), -1);
        Due.is("25: below 0", x.rank(0, 3, -1), -1);
        Due.is("25: below 0", x.rank(0, 3, MIN), -1);
        Due.is("25: no THOUGHT", x.rank(0, -1, 0), -1);
        for (int p : NO_PLACE) {
            Due.is("25: no PAY", x.rank(p, 0, 0), -1);
        }
        Due.row("25: the ROW stays", x, 4 * 2080374784L);
    }

    public static void main(String[] args) {
        promise20();
        promise21();
        promise22();
        promise23();
        promise24();
        promise25();
        Due.end("MadeTest");
    }
}
