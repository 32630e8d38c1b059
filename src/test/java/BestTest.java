/** Promises 12 to 19: what is best. */
public final class BestTest {
    private static final int MIN = Integer.MIN_VALUE;
    private static final int MAX = Integer.MAX_VALUE;
    private static final int[] NO_SAYING = {-1, 5, MIN, MAX};
    private static final int[] NO_PAY = {-1, 3, 4, MIN, MAX};

    private BestTest() {
    }

    private static void promise12() {
        PaidForThinking x = Due.with("q", "0-q", "8192*8192*31");
        Due.is("12: mean", x.mean(0, 3, 1), 0);
        Due.row("12: 1 times 3 and 3 times 1 by 4", x, 3, 2);
        x.mean(0, 1, 3);
        Due.row("12: 3 times 1 and 1 times 3 by 4", x, 3, 2);
        x.mean(0, 4, 3);
        Due.row("12: a whole number", x, 3, 1);
        x.mean(1, 3, 1);
        Due.row("12: below 0", x, -3, 2);
        x.mean(0, 4, 0);
        Due.row("12: 0 by 1", x, 0, 1);
        x.mean(2, 0, 0);
        Due.row("12: more than an int in between", x, 2080374784, 1);
        for (int s : NO_SAYING) {
            Due.is("12: no SAYING", x.mean(0, s, 0), -1);
            Due.is("12: no THOUGHT", x.mean(0, 0, s), -1);
        }
        for (int p : NO_PAY) {
            Due.is("12: no PAY", x.mean(p, 0, 0), -1);
        }
        Due.row("12: the ROW stays", x, 2080374784, 1);
        x.table(3, 6);
        x.mean(0, x.saying(1, 2, 3, 0), x.saying(0, 1, 5, 0));
        Due.row("12: three EVENTS", x, 17, 6);
    }

    private static void promise13() {
        PaidForThinking x = Due.with("2*d*q-s", "q", "8192*8192*31*(q>3)*(1-e)");
        Due.is("13: the truth", x.best(0, 3), 1);
        Due.row("13: the truth", x, 3);
        Due.is("13: one end", x.best(1, 1), 1);
        Due.row("13: one end", x, 0);
        Due.is("13: all", x.best(1, 2), 5);
        Due.row("13: all", x, 0, 1, 2, 3, 4);
        Due.is("13: WORTH of more than an int", x.best(2, 4), 1);
        Due.row("13: WORTH of more than an int", x, 4);
        for (int s : NO_SAYING) {
            Due.is("13: no THOUGHT", x.best(0, s), -1);
        }
        for (int p : NO_PAY) {
            Due.is("13: no PAY", x.best(p, 0), -1);
        }
        Due.row("13: the ROW stays", x, 4);
        x.table(2, 9);
        Due.is("13: ten", Due.tell(x, 0, "7") + x.best(0, 0), 10);
        Due.row("13: ten", x, 0, 1, 2, 3, 4, 5, 6, 7, 8, 9);
        x.table(2, 12);
        Due.is("13: the first ten", x.best(0, 0), 13);
        Due.row("13: the first ten", x, 0, 1, 2, 3, 4, 5, 6, 7, 8, 9);
        Due.tell(x, 0, "q>1");
        Due.is("13: those in the middle", x.best(0, 6), 9);
        Due.row("13: those in the middle", x, 2, 3, 4, 5, 6, 7, 8, 9, 10);
    }

    private static void promise14() {
        PaidForThinking x = Due.with("2*d*q-s", "q", "8192*8192*31*(q>3)*(1-e)");
        Due.is("14: loses", x.loses(0, 4, 3), 0);
        Due.row("14: loses", x, 2, 1);
        Due.is("14: nothing", x.loses(0, 3, 3), 0);
        Due.row("14: nothing", x, 0, 1);
        Due.is("14: by the truth", x.loses(1, 3, 3), 0);
        Due.row("14: by the truth", x, 1, 2);
        x.loses(2, 0, 4);
        Due.row("14: WORTH of more than an int", x, 2080374784, 1);
        for (int s : NO_SAYING) {
            Due.is("14: no SAYING", x.loses(0, s, 0), -1);
            Due.is("14: no THOUGHT", x.loses(0, 0, s), -1);
        }
        for (int p : NO_PAY) {
            Due.is("14: no PAY", x.loses(p, 0, 0), -1);
        }
        Due.row("14: the ROW stays", x, 2080374784, 1);
    }

    private static void promise15() {
        PaidForThinking x = Due.with("2*d*q-s", "q", "7");
        Due.is("15: STRICT", x.truly(0), 2);
        Due.row("15: STRICT", x);
        Due.is("15: not HONEST", x.truly(1), 0);
        Due.row("15: not HONEST at THOUGHT 1 first", x, 1, 0);
        Due.is("15: HONEST alone", x.truly(2), 1);
        Due.row("15: HONEST alone", x, 0, 1);
        for (int p : NO_PAY) {
            Due.is("15: no PAY", x.truly(p), -1);
        }
        Due.row("15: the ROW stays", x, 0, 1);
        Due.tell(x, 0, "x");
        Due.is("15: x", x.truly(0), 0);
        Due.row("15: at (0, 4) it is best, but not alone; at (1, 3) it is not", x, 1, 2);
        x.table(2, 2);
        Due.tell(x, 0, "x*2-1");
        Due.is("15: (1, 1) is best always", x.truly(0), 1);
        Due.row("15: (0, 2) at its own THOUGHT is as good", x, 0, 1);
        Due.tell(x, 0, "2*d*q-s+(q=1)");
        Due.is("15: one more for the middle", x.truly(0), 2);
        Due.tell(x, 0, "2*d*q-s+2*(q=1)");
        Due.is("15: two more for the middle", x.truly(0), 1);
        Due.row("15: two more for the middle", x, 0, 1);
        Due.tell(x, 0, "2*d*q-s+3*(q=1)");
        Due.is("15: three more for the middle", x.truly(0), 0);
        Due.row("15: three more for the middle", x, 0, 1);
        Due.tell(x, 0, "2*d*q-s-(q=1)*2");
        Due.is("15: less for the middle", x.truly(0), 1);
        Due.row("15: less for the middle", x, 1, 0);
        Due.tell(x, 0, "2*d*q-s-(q=1)*3");
        Due.is("15: less still", x.truly(0), 0);
        Due.row("15: less still", x, 1, 0);
        Due.tell(x, 0, "0-q");
        Due.is("15: turned round", x.truly(0), 0);
        Due.row("15: turned round", x, 0, 2);
        Due.tell(x, 0, "2*d*q-s+2*(q=1)*(1-e)");
        Due.is("15: the last one alone", x.truly(0), 1);
        Due.row("15: at (2, 0) so is (1, 1)", x, 2, 1);
    }

    private static void promise16() {
        PaidForThinking x = Due.with("2*d*q-s", "q", "0-q");
        Due.is("16: none", x.bends(0), 0);
        Due.row("16: none", x, -1, 0);
        Due.is("16: two", x.bends(1), 2);
        Due.row("16: of equal ones the first", x, 1, 2);
        Due.is("16: four", x.bends(2), 4);
        Due.row("16: turned round, at the end the most", x, 0, 16);
        for (int p : NO_PAY) {
            Due.is("16: no PAY", x.bends(p), -1);
        }
        Due.row("16: the ROW stays", x, 0, 16);
        Due.tell(x, 0, "e*q*q");
        Due.is("16: all but the first", x.bends(0), 3);
        Due.row("16: the most is not the first", x, 2, 24);
        // (0, 4) has 4 times 0 and (1, 3) 4 times 0; (4, 0) for THOUGHT (1, 3) is 1 more than the truth
        Due.tell(x, 0, "(1-e)*(q=4)");
        Due.is("16: some lose just 1", x.bends(0), 3);
        Due.row("16: some lose just 1", x, 3, 3);
    }

    private static void promise17() {
        PaidForThinking x = Due.with("2*d*q-s", "q", "x*(1-e)");
        Due.is("17: itself", x.could(0, 2), 1);
        Due.row("17: itself", x, 2, 2);
        Due.is("17: three", x.could(1, 0), 3);
        Due.row("17: three", x, 0, 2);
        Due.is("17: three", x.could(1, 4), 3);
        Due.row("17: three", x, 2, 4);
        Due.is("17: never but at nought", x.could(2, 1), 1);
        Due.row("17: at (0, 4) all is the same", x, 0, 0);
        Due.tell(x, 2, "1-(q=3)-(q=1)");
        Due.is("17: for none", x.could(2, 3), 0);
        Due.row("17: for none", x);
        Due.is("17: for all", x.could(2, 2), 5);
        Due.row("17: for all", x, 0, 4);
        for (int s : NO_SAYING) {
            Due.is("17: no SAYING", x.could(0, s), -1);
        }
        for (int p : NO_PAY) {
            Due.is("17: no PAY", x.could(p, 0), -1);
        }
        Due.row("17: the ROW stays", x, 0, 4);
    }

    private static void promise18() {
        PaidForThinking x = Due.with("2*d*q-s", "2*d*q-s+7*e-9", "2*d*q-s+7*x");
        x.best(0, 3);
        Due.is("18: by a number for each EVENT", x.same(0, 1), 1);
        Due.is("18: the other way round", x.same(1, 0), 1);
        Due.is("18: itself", x.same(2, 2), 1);
        Due.is("18: not", x.same(0, 2), 0);
        for (int p : NO_PAY) {
            Due.is("18: no PAY", x.same(p, 0), -1);
            Due.is("18: no PAY", x.same(0, p), -1);
        }
        Due.row("18: no ROW is told", x, 3);
        Due.tell(x, 0, "q");
        Due.tell(x, 1, "q+(q=4)*e");
        Due.is("18: at one EVENT alone", x.same(0, 1), 0);
        Due.tell(x, 1, "q+(q=0)*(1-e)");
        Due.is("18: at one EVENT alone", x.same(0, 1), 0);
        Due.tell(x, 1, "q+(q=1)*(1-e)");
        Due.is("18: at one SAYING alone", x.same(0, 1), 0);
        // 2 to the 31 apart at some SAYINGS and less that at others: as ints the same
        Due.tell(x, 0, "8192*8192*16*(2*(q>2)-1)");
        Due.tell(x, 1, "8192*8192*16*(1-2*(q>2))");
        Due.is("18: not as ints", x.same(0, 1), 0);
        // 2 to the 31 apart at all of them
        Due.tell(x, 0, "8192*8192*16+(q=4)");
        Due.tell(x, 1, "8192*8192*-16+(q=4)");
        Due.is("18: as far as that everywhere", x.same(0, 1), 1);
        Due.is("18: as far as that everywhere", x.same(1, 0), 1);
    }

    private static void promise19() {
        PaidForThinking x = Due.with("q", "3*q+e*5-2", "20*q", "21*q");
        Due.is("19: three times", x.alike(0, 1), 1);
        Due.row("19: three times", x, 3);
        Due.is("19: not by a third", x.alike(1, 0), 0);
        Due.row("19: not by a third", x);
        Due.is("19: once", x.alike(1, 1), 1);
        Due.row("19: once", x, 1);
        Due.is("19: 20 times", x.alike(0, 2), 1);
        Due.row("19: 20 times", x, 20);
        Due.is("19: not 21 times", x.alike(0, 3), 0);
        Due.row("19: not 21 times", x);
        Due.tell(x, 0, "7");
        Due.tell(x, 1, "e*9");
        Due.is("19: those that go by no SAYING", x.alike(0, 1), 1);
        Due.row("19: the least", x, 1);
        Due.tell(x, 2, "0-q");
        Due.tell(x, 3, "q");
        Due.is("19: not turned round", x.alike(2, 3), 0);
        Due.is("19: not nought times", x.alike(3, 0), 0);
        x.alike(3, 3);
        x.pay(2);
        int[] wrong = {-1, 2, 4, MIN, MAX};
        for (int p : wrong) {
            Due.is("19: no PAY", x.alike(p, 0), -1);
            Due.is("19: no PAY", x.alike(0, p), -1);
        }
        Due.row("19: the ROW stays", x, 1);
        // twice the one is 2 to the 32 for some SAYINGS: as ints nothing
        Due.tell(x, 0, "8192*8192*32*(q>2)");
        Due.tell(x, 1, "7");
        Due.is("19: not as ints", x.alike(0, 1), 0);
    }

    public static void main(String[] args) {
        promise12();
        promise13();
        promise14();
        promise15();
        promise16();
        promise17();
        promise18();
        promise19();
        Due.end("BestTest");
    }
}
