import java.util.NoSuchElementException;

/** What the tests share: answers that are due, and what was wrong. */
final class Due {
    private static int asked = 0;
    private static int wrong = 0;

    private Due() {
    }

    static int wrong() {
        return wrong;
    }

    static int asked() {
        return asked;
    }

    static void is(String what, long got, long due) {
        asked++;
        if (got != due) {
            wrong++;
            System.out.println(what + " answered " + got + ", due is " + due);
        }
    }

    static void is(String what, boolean got, boolean due) {
        is(what, got ? 1 : 0, due ? 1 : 0);
    }

    /** The whole ROW: its numbers, and no more. */
    static void row(String what, PaidForThinking x, long... due) {
        is(what + ": numbers of the ROW", x.count(7), due.length);
        for (int i = 0; i < due.length && i < x.count(7); i++) {
            is(what + ": row(" + i + ")", x.row(i), due[i]);
        }
        noRow(what, x, due.length);
        noRow(what, x, -1);
    }

    private static void noRow(String what, PaidForThinking x, int i) {
        boolean threw = false;
        try {
            x.row(i);
        } catch (NoSuchElementException e) {
            threw = true;
        }
        is(what + ": row(" + i + ") throws", threw, true);
    }

    static void noPart(String what, PaidForThinking x, int saying, int event) {
        boolean threw = false;
        try {
            x.part(saying, event);
        } catch (NoSuchElementException e) {
            threw = true;
        }
        is(what + " throws", threw, true);
    }

    static void noGets(String what, PaidForThinking x, int pay, int saying, int event) {
        boolean threw = false;
        try {
            x.gets(pay, saying, event);
        } catch (NoSuchElementException e) {
            threw = true;
        }
        is(what + " throws", threw, true);
    }

    /** THE TEXT becomes these signs: four come at once, what is too much goes again. */
    static void type(PaidForThinking x, String signs) {
        x.end(0);
        for (int i = 0; i < signs.length(); i += 4) {
            int four = 0;
            for (int k = 0; k < 4; k++) {
                four = four << 8 | (i + k < signs.length() ? signs.charAt(i + k) : 0);
            }
            x.sign(four);
        }
        x.end(signs.length());
    }

    static int tell(PaidForThinking x, int pay, String signs) {
        type(x, signs);
        return x.pay(pay);
    }

    static PaidForThinking with(String... pays) {
        PaidForThinking x = new PaidForThinking();
        for (int i = 0; i < pays.length; i++) {
            is("pay " + i + ": " + pays[i], tell(x, i, pays[i]), 0);
        }
        return x;
    }

    static void end(String name) {
        System.out.println(name + ": " + (asked - wrong) + " of " + asked + " answers are as due");
        if (wrong != 0 || asked == 0) {
            System.exit(1);
        }
    }
}
