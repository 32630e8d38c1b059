/** Promises 32 to 39: several people. */
public final class SeveralTest {
    private static final int MIN = Integer.MIN_VALUE;
    private static final int MAX = Integer.MAX_VALUE;
    private static final int[] NO_SAYING = {-1, 5, MIN, MAX};
    private static final int[] NO_PAY = {-1, 3, 4, MIN, MAX};

    private SeveralTest() {
    }

    private static PaidForThinking people(PaidForThinking x, int... thoughts) {
        for (int i = 0; i < thoughts.length; i++) {
            Due.is("32: person", x.person(thoughts[i]), i);
        }
        return x;
    }

    private static void promise32() {
        PaidForThinking x = people(Due.with("7"), 0, 4, 4, 2);
        Due.is("32: so many", x.count(4), 4);
        for (int t : NO_SAYING) {
            Due.is("32: refused", x.person(t), -1);
        }
        Due.is("32: the fifth", x.person(1), 4);
        Due.is("32: the sixth", x.person(1), 5);
        Due.is("32: no seventh", x.person(1), -1);
        Due.is("32: six", x.count(4), 6);
        Due.is("32: all get a sixth", x.prize(0, 5, 3), 40);
    }

    private static void promise33() {
        PaidForThinking x = people(Due.with("7"), 0, 1, 2);
        x.evening(0, 1, 1);
        x.word(1, 0, 2);
        x.keep(0);
        Due.is("33: three go", x.go(), 3);
        Due.is("33: none", x.count(4), 0);
        Due.is("33: THE BOOK too", x.count(5), 0);
        Due.is("33: WORDS stay", x.count(6), 2);
        Due.is("33: PAYS stay", x.count(3), 1);
        Due.is("33: nobody goes", x.go(), 0);
        Due.is("33: the first again", x.person(4), 0);
        Due.is("33: kept stays", x.again(0), true);
        Due.is("33: kept stays", x.count(4), 3);
        Due.is("33: kept stays", x.count(5), 1);
    }

    private static void promise34() {
        PaidForThinking x = people(Due.with("2*d*q-s", "7", "q"), 2, 3, 1);
        int[] first = {120, 60, 0, 60, 120};
        int[] second = {60, 30, 90, 180, 180};
        int[] third = {180, 180, 90, 30, 60};
        x.best(0, 3);
        for (int s = 0; s < 5; s++) {
            Due.is("34: the first says " + s, x.prize(0, 0, s), first[s]);
            Due.is("34: the second says " + s, x.prize(0, 1, s), second[s]);
            Due.is("34: the third says " + s, x.prize(0, 2, s), third[s]);
        }
        Due.is("34: in three parts", x.prize(1, 0, 4), 80);
        for (int s : NO_SAYING) {
            Due.is("34: no SAYING", x.prize(0, 0, s), -1);
        }
        int[] nobody = {-1, 3, 6, MIN, MAX};
        for (int w : nobody) {
            Due.is("34: nobody", x.prize(0, w, 0), -1);
        }
        for (int p : NO_PAY) {
            Due.is("34: no PAY", x.prize(p, 0, 0), -1);
        }
        Due.row("34: no ROW is told", x, 3);
        x.go();
        Due.is("34: nobody at all", x.prize(0, 0, 0), -1);
        people(x, 3);
        Due.is("34: one alone", x.prize(0, 0, 0), 240);
        PaidForThinking y = Due.with("e*(q=1)-(q=2)");
        y.table(3, 2);
        people(y, y.saying(1, 1, 0, 0), y.saying(0, 0, 2, 0));
        // by SAYING (0, 1, 1) against (0, 0, 2): EVENT 0 is equal, EVENTS 1 and 2 are its
        Due.is("34: three EVENTS", y.prize(0, 0, y.saying(0, 1, 1, 0)), 30 + 60);
    }

    private static void promise35() {
        PaidForThinking x = people(Due.with("2*d*q-s", "7"), 2, 3, 1);
        Due.is("35: the first one's", x.boast(0, 0), 0);
        Due.row("35: the first one's", x, 120, 0, 2);
        Due.is("35: of equal ones the truth", x.boast(0, 1), 3);
        Due.row("35: of equal ones the truth", x, 180, 180, 0);
        Due.is("35: of equal ones the truth", x.boast(0, 2), 1);
        Due.row("35: of equal ones the truth", x, 180, 180, 0);
        Due.is("35: all equal", x.boast(1, 2), 1);
        Due.row("35: all equal", x, 80, 80, 0);
        int[] nobody = {-1, 3, 6, MIN, MAX};
        for (int w : nobody) {
            Due.is("35: nobody", x.boast(0, w), -1);
        }
        for (int p : NO_PAY) {
            Due.is("35: no PAY", x.boast(p, 0), -1);
        }
        Due.row("35: the ROW stays", x, 80, 80, 0);
    }

    private static void promise36() {
        PaidForThinking x = people(Due.with("2*d*q-s", "7"), 2, 3, 1);
        Due.is("36: two rounds", x.rest(0), 2);
        Due.row("36: two rounds", x, 4, 4, 0);
        Due.is("36: what they think stays", x.boast(0, 0), 0);
        Due.is("36: at once", x.rest(1), 0);
        Due.row("36: at once", x, 2, 3, 1);
        for (int p : NO_PAY) {
            Due.is("36: no PAY", x.rest(p), -1);
        }
        Due.row("36: the ROW stays", x, 2, 3, 1);
        x.go();
        Due.is("36: nobody", x.rest(0), -1);
        x.table(3, 3);
        Due.tell(x, 0, "q");
        people(x, 5, 1);
        Due.is("36: 20 do not do", x.rest(0), -2);
        Due.row("36: the ROW stays", x, 2, 3, 1);
        x.table(3, 4);
        people(x, 2, 7, 0);
        Due.is("36: four rounds", x.rest(0), 4);
        Due.is("36: each says something", x.count(7), 3);
        x.table(2, 4);
        people(x, 0, 1, 2, 3, 4, 0);
        Due.is("36: six at once", x.rest(1), 0);
        Due.row("36: six at once", x, 0, 1, 2, 3, 4, 0);
        Due.tell(x, 0, "2*d*q-s");
        x.table(3, 7);
        people(x, 28, 32, 21, 23, 19);
        Due.is("36: 19 rounds change something, and the 20th does not", x.rest(0), 19);
        x.table(4, 5);
        people(x, 37, 10, 26, 28, 9, 33);
        x.best(0, 5);
        Due.is("36: the 21st would be the first without a change", x.rest(0), -2);
        Due.row("36: the ROW stays", x, 5);
    }

    private static void promise37() {
        PaidForThinking x = Due.with("2*d*q-s", "q", "e*8192*8192*31*(q=0)");
        Due.is("37: agree", x.agree(0, 0, 4), 2);
        Due.row("37: agree", x, 16);
        Due.is("37: the same", x.agree(0, 2, 2), 2);
        Due.row("37: the same", x, 0);
        Due.is("37: by q in the middle", x.agree(1, 0, 4), 2);
        Due.row("37: by q in the middle", x, 0);
        Due.is("37: less, of equal ones the first", x.agree(1, 0, 1), 0);
        Due.row("37: less, of equal ones the first", x, -1);
        Due.is("37: the same, of equal ones the first", x.agree(2, 1, 2), 0);
        Due.row("37: the same, of equal ones the first", x, 0);
        Due.tell(x, 2, "8192*8192*31*((q=4)-(q=0)-(q=2))");
        Due.is("37: more than an int", x.agree(2, 2, 2), 1);
        Due.row("37: more than an int", x, 2 * 2080374784L);
        x.table(3, 2);
        Due.tell(x, 2, "0-e*q");
        // both have 0, -1 and -6 by what they think; by (1, 0, 1) 0, 0 and -4, by (2, 0, 0) nothing
        Due.is("37: the third EVENT too", x.agree(2, 0, 1), 3);
        Due.row("37: the third EVENT too", x, 0);
        x.table(2, 4);
        for (int s : NO_SAYING) {
            Due.is("37: no THOUGHT", x.agree(0, s, 0), -1);
            Due.is("37: no THOUGHT", x.agree(0, 0, s), -1);
        }
        x.pay(2);
        int[] noPay = {-1, 2, 3, 4, MIN, MAX};
        for (int p : noPay) {
            Due.is("37: no PAY", x.agree(p, 0, 0), -1);
        }
        Due.row("37: the ROW stays", x, 0);
    }

    private static void promise38() {
        PaidForThinking x = Due.with("2*d*q-s", "7", "e*(q=1)+(1-e)*(q>1)");
        Due.is("38: gain", x.gain(0), 6);
        Due.row("38: gain", x, 0, 2);
        Due.is("38: none", x.gain(1), 0);
        Due.row("38: none", x);
        // (3, 1) has 1 and 1, and two of (2, 2), (3, 1), (4, 0) have 2 together for EVENT 0 already
        Due.is("38: seven", x.gain(2), 7);
        Due.row("38: seven", x, 0, 1);
        Due.tell(x, 2, "(q=0)*(1-e)+(q=4)*e");
        Due.is("38: by the first SAYING alone", x.gain(2), 10);
        Due.row("38: by the first SAYING alone", x, 0, 1);
        for (int p = 3; p < 5; p++) {
            Due.is("38: no PAY", x.gain(p), -1);
        }
        Due.is("38: no PAY", x.gain(-1), -1);
        Due.row("38: the ROW stays", x, 0, 1);
        Due.is("38: 91 SAYINGS", x.table(3, 12), 91);
        Due.is("38: 91 SAYINGS", x.gain(1), 0);
        Due.is("38: 91 SAYINGS", x.gain(0), 2784);
        Due.row("38: 91 SAYINGS", x, 0, 2);
        Due.is("38: 120 SAYINGS", x.table(4, 7), 120);
        Due.is("38: 120 SAYINGS", x.gain(0), -3);
        Due.is("38: NONE is asked ahead", x.gain(3), -1);
        Due.row("38: the ROW stays", x, 0, 2);
    }

    private static void promise39() {
        PaidForThinking x = Due.with("2*d*q-s", "7", "q=1");
        Due.is("39: peers", x.peers(0, 0, 4), 2);
        Due.row("39: peers", x, 0, 0, 2, 0);
        Due.is("39: both say the same", x.peers(0, 4, 4), 2);
        Due.row("39: both say the same", x, 0, 0, 2, 1);
        Due.is("39: all", x.peers(1, 3, 1), 25);
        Due.row("39: all", x, 0, 0, 5, 1);
        Due.is("39: the one and the other", x.peers(2, 1, 3), 2);
        Due.row("39: the one and the other", x, 1, 3, 0, 1);
        x.peers(2, 3, 1);
        Due.row("39: the other way round", x, 1, 3, 0, 1);
        x.peers(2, 1, 1);
        Due.row("39: both the one", x, 1, 3, 0, 0);
        Due.tell(x, 2, "x");
        Due.is("39: of equal ones the first EVENT", x.peers(2, 2, 1), 13);
        Due.row("39: (2, 2) is paid for by EVENT 0", x, 0, 0, 5, 0);
        for (int s : NO_SAYING) {
            Due.is("39: no THOUGHT", x.peers(0, s, 0), -1);
            Due.is("39: no THOUGHT", x.peers(0, 0, s), -1);
        }
        for (int p : NO_PAY) {
            Due.is("39: no PAY", x.peers(p, 0, 0), -1);
        }
        Due.row("39: the ROW stays", x, 0, 0, 5, 0);
        x.table(3, 12);
        Due.is("39: 91 SAYINGS", x.peers(0, 90, 90), 3);
        Due.row("39: 91 SAYINGS", x, 0, 0, 3, 1);
        x.table(4, 7);
        Due.is("39: 120 SAYINGS", x.peers(0, 0, 0), -3);
        Due.is("39: NONE is asked ahead", x.peers(3, 0, 0), -1);
        Due.is("39: NONE is asked ahead", x.peers(0, 120, 0), -1);
        Due.is("39: NONE is asked ahead", x.peers(0, 0, -1), -1);
        Due.row("39: the ROW stays", x, 0, 0, 3, 1);
    }

    public static void main(String[] args) {
        promise32();
        promise33();
        promise34();
        promise35();
        promise36();
        promise37();
        promise38();
        promise39();
        Due.end("SeveralTest");
    }
}
