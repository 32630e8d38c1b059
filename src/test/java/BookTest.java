/** Promises 44 to 52: words, the book. */
public final class BookTest {
    private static final int MIN = Integer.MIN_VALUE;
    private static final int MAX = Integer.MAX_VALUE;
    private static final int[] NO_SAYING = {-1, 5, MIN, MAX};
    private static final int[] NO_EVENT = {-1, 2, MIN, MAX};
    private static final int[] NO_PAY = {-1, 3, 4, MIN, MAX};
    private static final int[] NOBODY = {-1, 3, 6, MIN, MAX};

    private BookTest() {
    }

    /** Three people; the third has no EVENINGS. */
    private static PaidForThinking book(String... pays) {
        PaidForThinking x = Due.with(pays);
        x.person(2);
        x.person(3);
        x.person(0);
        int[][] evenings = {{0, 2, 0}, {1, 4, 1}, {0, 3, 0}, {0, 1, 1}, {1, 0, 1}};
        for (int i = 0; i < evenings.length; i++) {
            Due.is("46: evening", x.evening(evenings[i][0], evenings[i][1], evenings[i][2]), i + 1);
        }
        return x;
    }

    private static void promise44() {
        PaidForThinking x = new PaidForThinking();
        Due.is("44: word", x.word(0, 0, 4), true);
        Due.is("44: word", x.word(5, 2, 2), true);
        Due.is("44: two of them", x.count(6), 33);
        int[][] wrong = {{-1, 0, 0}, {6, 0, 0}, {MIN, 0, 0}, {MAX, 0, 0}, {1, -1, 2}, {1, 3, 2}, {1, 2, 5}, {1, 5, 5},
            {1, MIN, 2}, {1, 2, MAX}, {1, MAX, MIN}, {1, MIN, MIN}, {1, MAX, MAX}};
        for (int[] w : wrong) {
            Due.is("44: refused", x.word(w[0], w[1], w[2]), false);
        }
        Due.is("44: two of them", x.count(6), 33);
        Due.is("44: another one", x.word(0, 1, 1), true);
        Due.is("44: instead of the first", x.words(0), 0);
        Due.is("44: instead of the first", x.words(1), 1);
        Due.is("44: refused ones change nothing", x.word(0, 0, 5), false);
        Due.is("44: refused ones change nothing", x.words(0), 0);
        x.table(2, 12);
        Due.is("44: more STEPS", x.word(0, 0, 12), true);
    }

    private static void promise45() {
        PaidForThinking x = new PaidForThinking();
        for (int s = 0; s < 5; s++) {
            Due.is("45: no WORDS", x.words(s), 0);
        }
        x.word(0, 0, 1);
        x.word(1, 1, 3);
        x.word(5, 3, 4);
        x.word(2, 2, 2);
        int[] due = {1, 3, 6, 34, 32};
        for (int s = 0; s < 5; s++) {
            Due.is("45: WORDS for " + s, x.words(s), due[s]);
        }
        for (int s : NO_SAYING) {
            Due.is("45: none such", x.words(s), -1);
        }
        x.table(3, 2);
        x.word(3, 1, 1);
        Due.is("45: by EVENT 0", x.words(x.saying(1, 0, 1, 0)), 8);
        Due.is("45: by EVENT 0", x.words(x.saying(0, 1, 1, 0)), 0);
    }

    private static void promise46() {
        PaidForThinking x = book("7");
        x.best(0, 1);
        for (int who : NOBODY) {
            Due.is("46: nobody", x.evening(who, 0, 0), -1);
        }
        for (int s : NO_SAYING) {
            Due.is("46: no SAYING", x.evening(0, s, 0), -1);
        }
        for (int e : NO_EVENT) {
            Due.is("46: no EVENT", x.evening(0, 0, e), -1);
        }
        Due.is("46: five still", x.count(5), 5);
        for (int i = 6; i <= 40; i++) {
            Due.is("46: one more", x.evening(2, 4, 1), i);
        }
        Due.is("46: 40", x.evening(2, 4, 1), -1);
        Due.is("46: 40", x.count(5), 40);
        Due.is("46: all are in it", x.paid(0, 2), 35);
        Due.row("46: all are in it", x, 245, 245, 0);
    }

    private static void promise47() {
        PaidForThinking x = book("7");
        Due.is("47: forget", x.forget(), 4);
        Due.is("47: the latest", x.paid(0, 1), 1);
        Due.is("47: forget", x.forget(), 3);
        Due.is("47: the latest", x.paid(0, 0), 2);
        Due.is("47: another one instead", x.evening(2, 0, 0), 4);
        Due.is("47: forget", x.forget(), 3);
        Due.is("47: forget", x.forget(), 2);
        Due.is("47: forget", x.forget(), 1);
        Due.is("47: forget", x.forget(), 0);
        Due.is("47: none", x.forget(), -1);
        Due.is("47: none", x.count(5), 0);
        Due.is("47: people stay", x.count(4), 3);
        PaidForThinking y = new PaidForThinking();
        Due.is("47: none", y.forget(), -1);
    }

    private static void promise48() {
        PaidForThinking x = book("2*d*q-s", "q", "0-q*8192*8192*7");
        Due.is("48: paid", x.paid(0, 0), 3);
        Due.row("48: 8 and 14 and 14; twice 14 and -2 by (3, 1)", x, 36, 26, 3);
        Due.is("48: paid", x.paid(0, 1), 2);
        Due.row("48: -16 and 16; twice 16", x, 0, 32, 0);
        Due.is("48: paid", x.paid(1, 0), 3);
        Due.row("48: 2 and 3 and 3; twice 4", x, 8, 8, 4);
        Due.is("48: nothing", x.paid(0, 2), 0);
        Due.row("48: nothing", x, 0, 0, 0);
        Due.is("48: more than an int", x.paid(2, 0), 3);
        Due.row("48: more than an int", x, -8 * 469762048L, -4 * 469762048L, 0);
        for (int who : NOBODY) {
            Due.is("48: nobody", x.paid(0, who), -1);
        }
        for (int p = 3; p < 5; p++) {
            Due.is("48: no PAY", x.paid(p, 0), -1);
        }
        Due.is("48: no PAY", x.paid(-1, 0), -1);
        Due.row("48: the ROW stays", x, -8 * 469762048L, -4 * 469762048L, 0);
    }

    private static void promise49() {
        PaidForThinking x = book("2*d*q-s", "7", "0-q");
        Due.is("49: first", x.first(0), 0);
        Due.row("49: first", x, 12, 1);
        Due.is("49: of equal ones the first", x.first(1), 0);
        Due.row("49: of equal ones the first", x, 7, 1);
        Due.is("49: below 0, those without EVENINGS left out", x.first(2), 1);
        Due.row("49: below 0, those without EVENINGS left out", x, -2, 1);
        Due.tell(x, 1, "q+e*2");
        Due.is("49: as a fraction: 10 by 3 and 8 by 2", x.first(1), 1);
        Due.row("49: as a fraction: 10 by 3 and 8 by 2", x, 4, 1);
        Due.tell(x, 1, "q");
        Due.is("49: 8 by 3 and 4 by 2", x.first(1), 0);
        Due.row("49: 8 by 3 and 4 by 2", x, 8, 3);
        Due.tell(x, 1, "0-1");
        Due.is("49: all below 0", x.first(1), 0);
        Due.row("49: all below 0", x, -1, 1);
        for (int p = 3; p < 5; p++) {
            Due.is("49: no PAY", x.first(p), -1);
        }
        Due.is("49: no PAY", x.first(-1), -1);
        for (int i = 0; i < 5; i++) {
            x.forget();
        }
        Due.is("49: nobody has EVENINGS", x.first(0), -2);
        Due.is("49: NONE is asked ahead", x.first(3), -1);
        Due.row("49: the ROW stays", x, -1, 1);
        x.evening(2, 0, 0);
        Due.is("49: the only one with EVENINGS", x.first(0), 2);
        Due.row("49: the only one with EVENINGS", x, -16, 1);
        x.go();
        Due.is("49: nobody", x.first(0), -2);
    }

    private static void promise50() {
        PaidForThinking x = book("7");
        Due.is("50: right", x.right(0, 0, 2), 1);
        Due.row("50: 2 less 4, 3 less 4, 1 less 0", x, 1, 4);
        Due.is("50: none said so", x.right(0, 0, 4), 0);
        Due.row("50: none said so", x, 0, 4);
        Due.is("50: the other EVENT", x.right(0, 1, 3), 1);
        Due.row("50: 2, 1, 3 less 4", x, 1, 4);
        Due.is("50: another one", x.right(1, 0, 4), 1);
        Due.row("50: 4 less 0 and nought", x, 0, 4);
        Due.is("50: another one", x.right(1, 1, 4), 1);
        Due.row("50: nought less 4, and 4 less 4", x, 1, 4);
        Due.is("50: one without EVENINGS", x.right(2, 0, 0), 0);
        Due.row("50: one without EVENINGS", x, 0, 0);
        Due.is("50: above STEPS", x.right(0, 0, 12), 0);
        Due.row("50: above STEPS", x, 0, 4);
        x.evening(0, 2, 1);
        x.evening(0, 2, 0);
        Due.is("50: three times", x.right(0, 0, 2), 3);
        Due.row("50: 6 less 8, 3 less 4, 1 less 0", x, 2, 4);
        for (int who : NOBODY) {
            Due.is("50: nobody", x.right(who, 0, 2), -1);
        }
        for (int e : NO_EVENT) {
            Due.is("50: no EVENT", x.right(0, e, 2), -1);
        }
        int[] wrong = {-1, 13, MIN, MAX};
        for (int k : wrong) {
            Due.is("50: others", x.right(0, 0, k), -1);
        }
        Due.row("50: the ROW stays", x, 2, 4);
        x.table(3, 12);
        x.person(0);
        x.evening(0, x.saying(12, 0, 0, 0), 1);
        Due.is("50: all STEPS", x.right(0, 0, 12), 1);
        Due.row("50: all STEPS", x, 0, 12);
    }

    private static void promise51() {
        PaidForThinking x = book("7");
        x.word(0, 0, 1);
        x.word(1, 2, 3);
        x.word(2, 0, 4);
        x.word(3, 3, 3);
        x.word(4, 4, 4);
        Due.is("51: (1, 3) and (0, 4)", x.meant(0), 2);
        Due.row("51: none of two", x, 0, 1);
        Due.is("51: (2, 2) and (3, 1)", x.meant(1), 2);
        Due.row("51: both", x, 2, 0);
        Due.is("51: all", x.meant(2), 5);
        Due.row("51: two of five", x, 2, 1);
        Due.is("51: (4, 0)", x.meant(4), 1);
        Due.row("51: it did not come", x, 0, 0);
        x.evening(2, 4, 0);
        x.word(5, 2, 2);
        Due.is("51: one of two", x.meant(4), 2);
        Due.row("51: one of two", x, 1, 0);
        x.forget();
        PaidForThinking y = new PaidForThinking();
        y.person(0);
        y.word(0, 4, 4);
        y.evening(0, 4, 0);
        Due.is("51: one alone", y.meant(0), 1);
        Due.row("51: one alone", y, 1, 1);
        y.word(0, 0, 0);
        Due.is("51: not said for it", y.meant(0), 0);
        y.evening(0, 0, 1);
        Due.is("51: one alone that did not come", y.meant(0), 1);
        Due.row("51: one alone that did not come", y, 0, 1);
        x.word(4, 1, 1);
        Due.is("51: another PART", x.meant(4), 1);
        Due.row("51: another PART, too little", x, 0, 0);
        x.evening(2, 3, 0);
        x.evening(2, 3, 0);
        x.evening(2, 3, 1);
        Due.is("51: of all people", x.meant(3), 4);
        Due.row("51: just from and to", x, 3, 1);
        x.evening(2, 3, 1);
        Due.is("51: too little", x.meant(3), 5);
        Due.row("51: too little", x, 3, 0);
        Due.is("51: of all", x.meant(1), 6);
        Due.row("51: 4 of 6 are 2 2/3 of 4", x, 4, 1);
        Due.is("51: told, but never said", x.meant(5), 1);
        Due.row("51: once, and more than 2 of 4", x, 1, 0);
        x.meant(1);
        int[] wrong = {-1, 6, MIN, MAX};
        for (int i : wrong) {
            Due.is("51: not told, or none such", x.meant(i), -1);
        }
        Due.row("51: the ROW stays", x, 4, 1);
        x.go();
        Due.is("51: without any", x.meant(2), 0);
        Due.row("51: without any", x, 0, 0);
    }

    private static void promise52() {
        PaidForThinking x = book("2*d*q-s", "q", "7");
        Due.is("52: three different ones", x.thinks(0, 0), 0);
        Due.row("52: none", x);
        Due.is("52: one without EVENINGS may think all", x.thinks(0, 2), 5);
        Due.row("52: one without EVENINGS may think all", x, 0, 4);
        Due.is("52: both ends by q", x.thinks(1, 1), 1);
        Due.row("52: both ends by q", x, 2, 2);
        Due.is("52: all are best", x.thinks(2, 0), 5);
        Due.row("52: all are best", x, 0, 4);
        x.evening(2, 4, 0);
        Due.is("52: one", x.thinks(0, 2), 1);
        Due.row("52: one", x, 4, 4);
        Due.is("52: three by q", x.thinks(1, 2), 3);
        Due.row("52: three by q", x, 2, 4);
        x.evening(2, 4, 1);
        Due.is("52: the EVENT does not count", x.thinks(0, 2), 1);
        x.go();
        x.person(1);
        x.person(0);
        x.person(0);
        x.evening(0, 1, 0);
        x.evening(0, 3, 0);
        Due.is("52: the first of two", x.thinks(0, 0), 0);
        x.forget();
        x.evening(1, 3, 0);
        Due.is("52: one each", x.thinks(0, 0), 1);
        Due.row("52: one each", x, 1, 1);
        Due.is("52: one each", x.thinks(0, 1), 1);
        Due.row("52: one each", x, 3, 3);
        x.evening(2, 4, 1);
        x.thinks(0, 2);
        for (int who : NOBODY) {
            Due.is("52: nobody", x.thinks(0, who), -1);
        }
        for (int p : NO_PAY) {
            Due.is("52: no PAY", x.thinks(p, 0), -1);
        }
        Due.row("52: the ROW stays", x, 4, 4);
    }

    public static void main(String[] args) {
        promise44();
        promise45();
        promise46();
        promise47();
        promise48();
        promise49();
        promise50();
        promise51();
        promise52();
        Due.end("BookTest");
    }
}
