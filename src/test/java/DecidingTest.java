/** Promises 40 to 43: one who decides by what he is asked, a middle instead of chances. */
public final class DecidingTest {
    private static final int MIN = Integer.MIN_VALUE;
    private static final int MAX = Integer.MAX_VALUE;
    private static final int[] NO_SAYING = {-1, 5, MIN, MAX};
    private static final int[] NO_LEAST = {-1, 13, MIN, MAX};
    private static final int[] NO_PAY = {-1, 3, 4, MIN, MAX};

    private DecidingTest() {
    }

    private static void decided(PaidForThinking x, int pay, int[] call, int due, long... row) {
        String what = "40: decide " + pay + ", " + call[0] + ", " + call[1] + ", " + call[2];
        Due.is(what, x.decide(pay, call[0], call[1], call[2]), due);
        Due.row(what, x, row);
    }

    private static void promise40() {
        PaidForThinking x = Due.with("q", "2*d*q-s", "8192*8192*31*(e-1)");
        decided(x, 0, new int[] {2, 3, 1}, 0, 0, 12, 10);
        decided(x, 1, new int[] {2, 3, 1}, 1, 1, 40, 40);
        decided(x, 1, new int[] {2, 2, 4}, 2, 1, 32, 32);
        decided(x, 1, new int[] {2, 2, 0}, 0, 1, 64, 64);
        decided(x, 1, new int[] {4, 3, 4}, 3, 0, 56, -1000000000);
        decided(x, 1, new int[] {0, 3, 0}, 3, 1, 40, 40);
        decided(x, 1, new int[] {12, 4, 3}, 3, 1, 40, 40);
        decided(x, 1, new int[] {3, 3, 1}, 1, 1, 40, 40);
        // both WORTHS of those that are just what comes are far below -1000000000
        decided(x, 2, new int[] {2, 4, 1}, 0, 0, -2080374784L, -2080374784L);
        decided(x, 2, new int[] {2, 4, 0}, 0, 1, 0, 0);
        decided(x, 2, new int[] {0, 3, 0}, 0, 0, -3 * 2080374784L, -3 * 2080374784L);
        for (int s : NO_SAYING) {
            Due.is("40: no THOUGHT", x.decide(0, 2, s, 1), -1);
            Due.is("40: no THOUGHT", x.decide(0, 2, 1, s), -1);
        }
        for (int least : NO_LEAST) {
            Due.is("40: others", x.decide(0, least, 3, 1), -1);
        }
        for (int p : NO_PAY) {
            Due.is("40: no PAY", x.decide(p, 2, 3, 1), -1);
        }
        Due.row("40: the ROW stays", x, 0, -3 * 2080374784L, -3 * 2080374784L);
    }

    private static void tossed(PaidForThinking x, int pay, int[] call, int due, long... row) {
        String what = "41: coin " + pay + ", " + call[0] + ", " + call[1] + ", " + call[2];
        Due.is(what, x.coin(pay, call[0], call[1], call[2]), due);
        Due.row(what, x, row);
    }

    private static void promise41() {
        PaidForThinking x = Due.with("2*d*q-s", "q", "7");
        tossed(x, 0, new int[] {2, 3, 1}, 0, 1600, 1600);
        // a: 32 by the truth, 24 by what decides the other way, which is 64: (40 - k) 32 + 64 k against 24 k + (40 - k) 64
        tossed(x, 0, new int[] {2, 2, 4}, 18, 22 * 32 + 18 * 64, 2560);
        tossed(x, 0, new int[] {0, 2, 4}, 0, 1280, 1280);
        tossed(x, 0, new int[] {5, 2, 4}, 0, 2560, 2560);
        tossed(x, 0, new int[] {12, 2, 4}, 0, 2560, 2560);
        // then is below least: the truth decides the other way
        tossed(x, 0, new int[] {3, 2, 4}, 0, 2560, 2560);
        // then decides the other way, 32 or 40; (1, 3), 56 for then, the first one
        tossed(x, 0, new int[] {1, 0, 2}, 18, 22 * 32 + 18 * 64, 2240);
        tossed(x, 0, new int[] {1, 0, 3}, 16, 24 * 40 + 16 * 64, 2240);
        tossed(x, 0, new int[] {0, 0, 4}, 0, 2560, 2560);
        promise41Ends();
        tossed(x, 2, new int[] {2, 0, 4}, 0, 1120, 1120);
        int[][] none = {{2, 3, 1}, {2, 1, 3}};
        for (int[] n : none) {
            Due.is("41: none", x.coin(1, n[0], n[1], n[2]), -2);
        }
        Due.row("41: the ROW stays", x, 1120, 1120);
        promise41Wrong(x);
        Due.tell(x, 0, "8192*8192*31*(q=4)");
        tossed(x, 0, new int[] {4, 4, 0}, 0, 160 * 2080374784L, 160 * 2080374784L);
        x.table(2, 12);
        Due.tell(x, 0, "2*d*q-s");
        Due.is("41: twelve STEPS", x.coin(0, 12, 12, 6), 0);
        Due.row("41: twelve STEPS", x, 40 * 1728, 40 * 1728);
    }

    private static void promise41Ends() {
        // as above, but each WORTH is 400 less: below 0 all of them
        PaidForThinking x = Due.with("2*d*q-s-100");
        tossed(x, 0, new int[] {2, 2, 4}, 18, 22 * 32 + 18 * 64 - 16000, 2560 - 16000);
        tossed(x, 0, new int[] {1, 0, 2}, 18, 22 * 32 + 18 * 64 - 16000, 2240 - 16000);
        x.table(2, 5);
        Due.tell(x, 0, "q*4-q*q/2");
        tossed(x, 0, new int[] {2, 0, 3}, 20, 1520, 1600);
        x.table(3, 5);
        Due.tell(x, 0, "2*d*q-s");
        tossed(x, 0, new int[] {1, 8, 0}, 19, 3320, 5000);
    }

    private static void promise41Wrong(PaidForThinking x) {
        for (int s : NO_SAYING) {
            Due.is("41: no THOUGHT", x.coin(1, 2, s, 1), -1);
            Due.is("41: no THOUGHT", x.coin(1, 2, 1, s), -1);
        }
        for (int least : NO_LEAST) {
            Due.is("41: others", x.coin(1, least, 3, 1), -1);
        }
        for (int p : NO_PAY) {
            Due.is("41: no PAY", x.coin(p, 2, 3, 1), -1);
        }
        Due.row("41: the ROW stays", x, 1120, 1120);
    }

    private static void said(PaidForThinking x, int pay, int thought, int due, long... row) {
        String what = "42: says " + pay + ", " + thought;
        Due.is(what, x.says(pay, thought), due);
        Due.row(what, x, row);
    }

    private static void promise42() {
        PaidForThinking x = Due.with("q", "0-q", "8192*8192*31*(q>3)*e");
        said(x, 0, 0, 1, 1, 1);
        said(x, 0, 1, 1, 1, 1);
        said(x, 0, 2, 0, 0, 0);
        said(x, 0, 3, 0, 0, 0);
        said(x, 0, 4, 0, 0, 0);
        said(x, 1, 1, 0, 1, 1);
        said(x, 1, 3, 1, 0, 0);
        said(x, 2, 0, 1, 1, 1);
        for (int s : NO_SAYING) {
            Due.is("42: no THOUGHT", x.says(0, s), -1);
        }
        for (int p : NO_PAY) {
            Due.is("42: no PAY", x.says(p, 0), -1);
        }
        Due.row("42: the ROW stays", x, 1, 1);
        x.table(4, 5);
        said(x, 0, x.saying(2, 1, 0, 2), 0, 1, 0);
        said(x, 0, x.saying(0, 1, 2, 2), 2, 2, 2);
        said(x, 0, x.saying(1, 1, 0, 3), 3, 3, 3);
        said(x, 0, x.saying(2, 0, 0, 3), 3, 3, 3);
        said(x, 1, x.saying(1, 0, 1, 3), 1, 3, 3);
        x.table(2, 12);
        said(x, 0, 6, 0, 0, 0);
        said(x, 0, 5, 1, 1, 1);
        x.table(3, 4);
        said(x, 0, x.saying(2, 1, 1, 0), 0, 0, 0);
        said(x, 0, x.saying(1, 1, 2, 0), 2, 1, 2);
        Due.tell(x, 0, "s-m*e");
        said(x, 0, x.saying(1, 1, 2, 0), 0, 1, 2);
    }

    private static void middled(PaidForThinking x, int thought, int a, int b, int due, long... row) {
        String what = "43: middle " + thought + ", " + a + ", " + b;
        Due.is(what, x.middle(thought, a, b), due);
        Due.row(what, x, row);
    }

    private static void promise43() {
        PaidForThinking x = new PaidForThinking();
        middled(x, 2, 1, 1, 0, 2, 2);
        middled(x, 3, 1, 1, 0, 1, 1);
        middled(x, 3, 3, 1, 0, 3, 2);
        middled(x, 3, 4, 1, 1, 3, 1);
        middled(x, 3, 0, 0, 0, 0, 2);
        middled(x, 3, 9, 9, 0, 9, 1);
        middled(x, 0, 1, 0, 1, 0, 1);
        for (int s : NO_SAYING) {
            Due.is("43: no THOUGHT", x.middle(s, 1, 1), -1);
        }
        int[] wrong = {-1, 10, MIN, MAX};
        for (int w : wrong) {
            Due.is("43: others", x.middle(0, w, 1), -1);
            Due.is("43: others", x.middle(0, 1, w), -1);
        }
        Due.row("43: the ROW stays", x, 0, 1);
        x.table(3, 4);
        int t = x.saying(1, 1, 2, 0);
        middled(x, t, 1, 1, 1, 3, 2);
        middled(x, t, 2, 1, 2, 3, 1);
        middled(x, t, 1, 2, 1, 4, 1);
        middled(x, t, 0, 1, 0, 0, 1);
        middled(x, t, 1, 0, 2, 0, 1);
        x.table(4, 12);
        middled(x, x.saying(6, 0, 0, 6), 1, 1, 0, 18, 4);
        middled(x, x.saying(3, 3, 3, 3), 9, 9, 1, 108, 2);
    }

    public static void main(String[] args) {
        promise40();
        promise41();
        promise42();
        promise43();
        Due.end("DecidingTest");
    }
}
