/** Promises 26 to 31: looking, one who minds loss, lots, bribes. */
public final class LookingTest {
    private static final int MIN = Integer.MIN_VALUE;
    private static final int MAX = Integer.MAX_VALUE;
    private static final int[] NO_SAYING = {-1, 5, MIN, MAX};
    private static final int[] NO_PAY = {-1, 3, 4, MIN, MAX};

    private LookingTest() {
    }

    private static void looks(PaidForThinking x, int pay, int thought, int lights, int cost, long more, long times) {
        String what = "26: look(" + pay + ", " + thought + ", " + lights + ", " + cost + ")";
        Due.is(what, x.look(pay, thought, lights, cost), 0);
        Due.row(what, x, more, times);
    }

    private static void promise26() {
        PaidForThinking x = Due.with("2*d*q-s", "q", "8192*8192*31*x");
        looks(x, 0, 2, 90, 10, 256, 2);
        looks(x, 0, 2, 90, 6, 256, 1);
        looks(x, 0, 2, 90, 7, 256, 2);
        looks(x, 0, 2, 90, 9999, 256, 1563);
        looks(x, 0, 2, 55, 0, 0, 1);
        looks(x, 0, 2, 90, 0, 256, 1);
        looks(x, 0, 2, 99, 1, 0, -1);
        looks(x, 0, 2, 0, 5, 0, -1);
        // by q: 8 for each digit of difference at (2, 2)
        looks(x, 1, 2, 50, 9999, 40, 9999);
        looks(x, 1, 2, 4, 7999, 32, 9999);
        looks(x, 1, 2, 4, 8000, 32, -1);
        looks(x, 1, 2, 26, 9999, 32, -1);
        // the first EVENT's digit first
        looks(x, 1, 3, 90, 1, 28, 2);
        looks(x, 1, 3, 9, 1, 36, 2);
        looks(x, 1, 4, 90, 0, 0, 1);
        looks(x, 2, 2, 90, 9999, 0, -1);
        promise26Wrong(x);
        x.table(3, 2);
        looks(x, 1, x.saying(1, 1, 0, 0), 900, 1, 18, 2);
        looks(x, 1, x.saying(0, 1, 1, 0), 900, 1, 0, -1);
        looks(x, 1, x.saying(0, 1, 1, 0), 5, 1, 10, 2);
        looks(x, 1, 0, 999, 0, 0, 1);
        Due.is("26: one digit too many", x.look(1, 0, 1000, 0), -1);
        Due.tell(x, 2, "q=2");
        looks(x, 2, 4, 307, 5, 3, 34);
        x.table(2, 2);
        looks(x, 2, 1, 67, 21, 1, 420);
        x.table(4, 1);
        looks(x, 1, 0, 9999, 0, 0, 1);
        Due.is("26: one digit too many", x.look(1, 0, 10000, 0), -1);
    }

    private static void promise26Wrong(PaidForThinking x) {
        int[] lights = {-1, 100, MIN, MAX};
        int[] costs = {-1, 10000, MIN, MAX};
        x.look(1, 3, 9, 1);
        for (int i = 0; i < 4; i++) {
            Due.is("26: others", x.look(0, 2, lights[i], 0), -1);
            Due.is("26: others", x.look(0, 2, 0, costs[i]), -1);
            Due.is("26: no THOUGHT", x.look(0, NO_SAYING[i], 0, 0), -1);
        }
        for (int p : NO_PAY) {
            Due.is("26: no PAY", x.look(p, 2, 0, 0), -1);
        }
        Due.row("26: the ROW stays", x, 36, 2);
    }

    private static void promise27() {
        PaidForThinking x = Due.with("2*d*q-s");
        Due.is("27: the only one", x.purse(2, 90, 10), 0);
        Due.row("27: the only one", x, 2);
        Due.tell(x, 3, "20*q");
        Due.is("27: fewer times", x.purse(2, 90, 10), 3);
        Due.row("27: fewer times", x, 1);
        Due.tell(x, 1, "20*q");
        Due.is("27: of equal ones the first", x.purse(2, 90, 10), 1);
        Due.row("27: of equal ones the first", x, 1);
        Due.is("27: of equal ones the first", x.purse(2, 90, 0), 0);
        Due.row("27: at no cost", x, 1);
        x.purse(2, 90, 10);
        x.look(1, 2, 90, 9999);
        Due.is("27: by none", x.purse(2, 99, 5), -2);
        Due.row("27: the ROW stays", x, 1440, 278);
        int[] lights = {-1, 100, MIN, MAX};
        int[] costs = {-1, 10000, MIN, MAX};
        for (int i = 0; i < 4; i++) {
            Due.is("27: others", x.purse(2, lights[i], 0), -1);
            Due.is("27: others", x.purse(2, 0, costs[i]), -1);
            Due.is("27: no THOUGHT", x.purse(NO_SAYING[i], 0, 0), -1);
        }
        Due.row("27: the ROW stays", x, 1440, 278);
        PaidForThinking none = new PaidForThinking();
        Due.is("27: no PAY at all", none.purse(2, 90, 0), -2);
        Due.is("27: no PAY at all, others", none.purse(5, 90, 0), -1);
        Due.row("27: no ROW", none);
        // 9999 times are told, but not 10000
        Due.tell(none, 2, "q");
        Due.is("27: 9999", none.purse(2, 50, 9999), 2);
        Due.row("27: 9999", none, 9999);
        Due.is("27: more than 9999", none.purse(2, 40, 8000), -2);
    }

    private static void promise28() {
        PaidForThinking x = Due.with("2*d*q-s", "7", "q-2");
        Due.is("28: once", x.minds(0, 3, 1), 3);
        Due.row("28: once", x, 1, 1, 10, 1);
        Due.is("28: nine times", x.minds(0, 3, 9), 2);
        Due.row("28: nine times", x, 1, 0, 8, 1);
        Due.is("28: never below 0", x.minds(1, 4, 9), 0);
        Due.row("28: never below 0", x, 5, 1, 7, 1);
        // 3 (q0 - 2) and (2 - q0), the one below 0 three times: 3 k and -3 k are the same
        Due.is("28: two are", x.minds(2, 3, 3), 2);
        Due.row("28: two are", x, 3, 1, 0, 1);
        Due.is("28: MEAN as it is", x.minds(2, 3, 2), 4);
        Due.row("28: MEAN as it is", x, 1, 0, 1, 1);
        for (int t : NO_SAYING) {
            Due.is("28: no THOUGHT", x.minds(0, t, 1), -1);
        }
        int[] wrong = {0, 10, -1, MIN, MAX};
        for (int w : wrong) {
            Due.is("28: others", x.minds(0, 3, w), -1);
        }
        for (int p = 3; p < 5; p++) {
            Due.is("28: no PAY", x.minds(p, 0, 1), -1);
        }
        Due.is("28: no PAY", x.minds(-1, 0, 1), -1);
        Due.row("28: the ROW stays", x, 1, 0, 1, 1);
        Due.tell(x, 2, "8192*8192*-32+(q=1)");
        Due.is("28: no ints", x.minds(2, 0, 9), 3);
        Due.row("28: no ints", x, 1, 0, MIN + 1, 1);
    }

    private static void promise29() {
        PaidForThinking x = Due.with("2*d*q-s", "e*8192*8192*32", "5000");
        Due.is("29: lot", x.lot(0, 16, 32), 1);
        Due.row("29: lot", x, 16, 32);
        Due.is("29: wider", x.lot(0, 20, 36), 1);
        Due.is("29: below 0", x.lot(0, 15, 32), 0);
        Due.row("29: below 0", x, 16, 32);
        Due.is("29: above top", x.lot(0, 16, 31), 0);
        Due.is("29: the ends", x.lot(0, 9999, 9999), 0);
        Due.is("29: the other ends", x.lot(2, -5000, 1), 1);
        Due.row("29: the other ends", x, -5000, 0);
        Due.is("29: below 0 by one", x.lot(2, -5001, 1), 0);
        Due.is("29: above by one", x.lot(2, -4998, 1), 0);
        Due.is("29: the least int", x.lot(1, -1, 9999), 0);
        Due.row("29: no ints", x, 2147483648L, 2147483648L);
        Due.tell(x, 1, "8192*8192*31+8192*8191+8191");
        Due.is("29: the greatest int", x.lot(1, 1, 9999), 0);
        Due.row("29: the greatest int", x, -MAX, 0);
        int[] adds = {-10000, 10000, MIN, MAX};
        int[] tops = {0, 10000, -1, MIN, MAX};
        for (int add : adds) {
            Due.is("29: others", x.lot(0, add, 100), -1);
        }
        for (int top : tops) {
            Due.is("29: others", x.lot(0, 16, top), -1);
        }
        for (int p : NO_PAY) {
            Due.is("29: no PAY", x.lot(p, 16, 100), -1);
        }
        Due.row("29: the ROW stays", x, -MAX, 0);
        Due.is("29: add -9999", x.lot(2, -9999, 9999), 0);
        Due.row("29: add -9999", x, -5000, 0);
    }

    private static void bribed(PaidForThinking x, int[] call, int due, long times) {
        String what = "30: bribe " + call[0] + ", " + call[1] + ", " + call[2] + ", " + call[3] + ", " + call[4];
        Due.is(what, x.bribe(call[0], call[1], call[2], call[3], call[4]), due);
        Due.row(what, x, times);
    }

    private static void promise30() {
        PaidForThinking x = Due.with("2*d*q-s", "q", "7");
        bribed(x, new int[] {0, 2, 0, 3, 0}, 2, 1);
        bribed(x, new int[] {0, 2, 0, 3, 2}, 2, 1);
        bribed(x, new int[] {0, 2, 0, 3, 3}, 3, 2);
        bribed(x, new int[] {0, 2, 0, 2, 9999}, 2, 1);
        bribed(x, new int[] {0, 2, 1, 3, 3}, 1, 2);
        bribed(x, new int[] {0, 2, 0, 3, 9999}, 3, 5000);
        bribed(x, new int[] {0, 2, 0, 4, 9999}, 4, 1250);
        bribed(x, new int[] {0, 2, 0, 5, 9999}, 2, 1);
        bribed(x, new int[] {0, 2, 0, 12, 9999}, 2, 1);
        bribed(x, new int[] {0, 2, 0, 0, 9999}, 2, 1);
        // by q at (2, 2) all are equal, at (3, 1) truth is not best: only a bribe for it makes it so, while it lasts
        bribed(x, new int[] {1, 2, 0, 3, 1}, 3, -1);
        bribed(x, new int[] {1, 2, 0, 3, 0}, 0, 1);
        bribed(x, new int[] {1, 3, 0, 3, 1}, 4, -1);
        bribed(x, new int[] {1, 3, 0, 4, 1}, 4, -1);
        bribed(x, new int[] {1, 3, 1, 1, 1}, 3, 1);
        bribed(x, new int[] {1, 3, 1, 1, 0}, 4, -1);
        bribed(x, new int[] {2, 2, 1, 1, 1}, 0, 1);
        bribed(x, new int[] {2, 4, 1, 1, 1}, 0, -1);
        promise30Bounds();
        promise30Wrong(x);
    }

    /** Times from below by one SAYING, from above by another one. */
    private static void promise30Bounds() {
        PaidForThinking x = Due.with("(1-e)*((q=4)*4+(q=3)*2)");
        // THOUGHT (4, 0): 4 is 16, 3 is 8, the others 0
        bribed(x, new int[] {0, 4, 1, 1, 2}, 3, 1);
        bribed(x, new int[] {0, 4, 1, 1, 1}, 4, 1);
        bribed(x, new int[] {0, 4, 1, 1, 3}, 3, 2);
        bribed(x, new int[] {0, 4, 1, 2, 5}, 0, 2);
        // THOUGHT (3, 1): 4 is 12, 3 is 6, the others 0: 3 is best only while the bribe is 6 t at least
        bribed(x, new int[] {0, 3, 1, 1, 2}, 3, 1);
        bribed(x, new int[] {0, 3, 1, 1, 1}, 4, -1);
        // THOUGHT (2, 2) is 0 always, 3 is 4, 4 is 8
        bribed(x, new int[] {0, 2, 1, 2, 2}, 0, 1);
        bribed(x, new int[] {0, 2, 1, 2, 1}, 4, -1);
        PaidForThinking y = Due.with("(q=4)*(1-e)+(q=0)*(e-1)*9");
        // as much as 9999 times and no more: 4 ahead of the others, a bribe of 4 times the gift
        bribed(y, new int[] {0, 4, 1, 1, 9999}, 1, 9999);
        Due.tell(y, 0, "(q=3)*(1-e)");
        bribed(y, new int[] {0, 3, 0, 4, 7499}, 4, 9999);
        bribed(y, new int[] {0, 3, 0, 4, 7500}, 4, -1);
        // 4 by 3, and 4 by 1
        bribed(y, new int[] {0, 3, 0, 4, 1}, 4, 2);
        Due.tell(y, 0, "(q=1)*(1-e)");
        bribed(y, new int[] {0, 1, 0, 4, 1}, 4, 4);
        y.table(2, 1);
        Due.tell(y, 0, "7");
        bribed(y, new int[] {0, 0, 0, 1, 1}, 1, -1);
        Due.tell(y, 0, "q");
        bribed(y, new int[] {0, 0, 0, 1, 1}, 0, 1);
        bribed(y, new int[] {0, 0, 0, 1, 2}, 1, 2);
        Due.tell(y, 0, "0-q");
        bribed(y, new int[] {0, 0, 0, 1, 1}, 1, -1);
        bribed(y, new int[] {0, 0, 1, 1, 1}, 0, 1);
    }

    private static void promise30Wrong(PaidForThinking x) {
        bribed(x, new int[] {0, 2, 0, 3, 3}, 3, 2);
        for (int t : NO_SAYING) {
            Due.is("30: no THOUGHT", x.bribe(0, t, 0, 3, 1), -1);
        }
        int[] events = {-1, 2, MIN, MAX};
        int[] leasts = {-1, 13, MIN, MAX};
        int[] gifts = {-1, 10000, MIN, MAX};
        for (int i = 0; i < 4; i++) {
            Due.is("30: no EVENT", x.bribe(0, 2, events[i], 3, 1), -1);
            Due.is("30: others", x.bribe(0, 2, 0, leasts[i], 1), -1);
            Due.is("30: others", x.bribe(0, 2, 0, 3, gifts[i]), -1);
        }
        for (int p : NO_PAY) {
            Due.is("30: no PAY", x.bribe(p, 2, 0, 3, 1), -1);
        }
        Due.row("30: the ROW stays", x, 2);
    }

    private static void promise31() {
        PaidForThinking x = Due.with("2*d*q-s", "q", "7");
        x.best(0, 3);
        Due.is("31: safe", x.safe(0), 2);
        Due.is("31: not even 0", x.safe(1), -2);
        Due.is("31: just 0", x.safe(2), 0);
        for (int p : NO_PAY) {
            Due.is("31: no PAY", x.safe(p), -1);
        }
        Due.row("31: no ROW is told", x, 3);
        Due.tell(x, 0, "4999*(2*d*q-s)");
        Due.is("31: 9998", x.safe(0), 9998);
        Due.tell(x, 0, "5000*(2*d*q-s)");
        Due.is("31: 9999 at most", x.safe(0), 9999);
        x.table(2, 2);
        Due.tell(x, 0, "2*d*q-s-(q=1)*e");
        Due.is("31: 3 by 2 STEPS", x.safe(0), 1);
        Due.tell(x, 0, "2*d*q-s-(q=1)*e*3");
        Due.is("31: 1 by 2 STEPS", x.safe(0), 0);
        Due.tell(x, 0, "2*d*q-s-(q=1)*e*5");
        Due.is("31: 1 too few", x.safe(0), -2);
        Due.tell(x, 0, "2*d*q-s+(q=1)*e");
        Due.is("31: the first THOUGHT is the least safe", x.safe(0), 1);
        Due.tell(x, 0, "2*d*q-s+3*(q=1)*e");
        Due.is("31: the first THOUGHT alone is not", x.safe(0), -2);
        x.table(3, 1);
        Due.tell(x, 0, "9*q");
        Due.is("31: one STEP", x.safe(0), 9);
    }

    public static void main(String[] args) {
        promise26();
        promise27();
        promise28();
        promise29();
        promise30();
        promise31();
        Due.end("LookingTest");
    }
}
