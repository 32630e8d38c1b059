/** Promises 1 to 11: events, sayings, pays. */
public final class TellingTest {
    private static final int MIN = Integer.MIN_VALUE;
    private static final int MAX = Integer.MAX_VALUE;

    private TellingTest() {
    }

    private static void promise1() {
        PaidForThinking x = new PaidForThinking();
        int[] due = {2, 4, 5, 0, 0, 0, 0, 0, 0};
        for (int what = 0; what < due.length; what++) {
            Due.is("1: count(" + what + ")", x.count(what), due[what]);
        }
        Due.row("1: nothing told", x);
        for (int at = 0; at <= 12; at++) {
            Due.is("1: a square in TURN", x.turn(at, 0), at * at);
        }
        for (int pay = 0; pay < 4; pay++) {
            Due.is("1: no PAY", x.ends(pay), -1);
            Due.noGets("1: no PAY", x, pay, 0, 0);
        }
        Due.is("1: nothing kept", x.again(0), false);
    }

    private static void promise2() {
        PaidForThinking x = new PaidForThinking();
        int[][] due = {{2, 1, 2}, {2, 12, 13}, {3, 1, 3}, {3, 12, 91}, {4, 1, 4}, {4, 7, 120}, {4, 12, 455}};
        for (int[] d : due) {
            Due.is("2: table", x.table(d[0], d[1]), d[2]);
            Due.is("2: EVENTS", x.count(0), d[0]);
            Due.is("2: STEPS", x.count(1), d[1]);
            Due.is("2: SAYINGS", x.count(2), d[2]);
        }
        int[][] wrong = {{1, 4}, {5, 4}, {2, 0}, {2, 13}, {0, 0}, {-1, 4}, {2, -4}, {MIN, MIN}, {MAX, MAX}, {2, MAX}};
        for (int[] w : wrong) {
            Due.is("2: refused", x.table(w[0], w[1]), -1);
            Due.is("2: refused, SAYINGS", x.count(2), 455);
        }
        whatGoesWithATable();
    }

    private static void whatGoesWithATable() {
        PaidForThinking x = Due.with("q*2");
        x.make(1);
        x.mix(2, 0, 0, 1, 1);
        x.lift(3, 0);
        x.person(1);
        x.evening(0, 1, 1);
        x.word(2, 1, 3);
        x.turn(3, 77);
        x.ends(0);
        x.keep(1);
        x.sign(65);
        Due.is("2: refused, all stays", x.table(2, 13), -1);
        int[] before = {2, 4, 5, 15, 1, 1, 4, 4, 4};
        for (int what = 0; what < before.length; what++) {
            Due.is("2: refused, count(" + what + ")", x.count(what), before[what]);
        }
        Due.is("2: refused, kept stays", x.again(1), true);
        Due.is("2: the same numbers", x.table(2, 4), 5);
        int[] after = {2, 4, 5, 1, 0, 0, 0, 4, 4};
        for (int what = 0; what < after.length; what++) {
            Due.is("2: behind it, count(" + what + ")", x.count(what), after[what]);
        }
        Due.is("2: TURN stays", x.turn(3, 9), 77);
        Due.is("2: kept is gone", x.again(1), false);
        Due.is("2: another", x.table(3, 3), 10);
        Due.is("2: a text goes by the new one", x.gets(0, 9, 0), 6);
    }

    private static void promise3() {
        PaidForThinking x = new PaidForThinking();
        Due.is("3: the least", x.saying(0, 4, 0, 0), 0);
        Due.is("3: the greatest", x.saying(4, 0, 0, 0), 4);
        int[][] wrong = {{3, 2, 0, 0}, {3, 0, 0, 0}, {-1, 5, 0, 0}, {5, -1, 0, 0}, {3, 0, 1, 0}, {3, 0, 0, 1},
            {3, 1, 1, -1}, {3, 1, 0, 1}, {MAX, MAX, 0, 6}, {MIN, MIN, 4, 0}};
        for (int[] w : wrong) {
            Due.is("3: none", x.saying(w[0], w[1], w[2], w[3]), -1);
        }
        x.table(3, 2);
        int[][] order = {{0, 0, 2}, {0, 1, 1}, {0, 2, 0}, {1, 0, 1}, {1, 1, 0}, {2, 0, 0}};
        for (int i = 0; i < order.length; i++) {
            Due.is("3: order of three", x.saying(order[i][0], order[i][1], order[i][2], 0), i);
        }
        Due.is("3: a fourth of three", x.saying(1, 0, 0, 1), -1);
        x.table(4, 12);
        x.table(2, 4);
        Due.is("3: one of the last table", x.saying(0, 0, 5, 7), -1);
        Due.is("3: one of the last table", x.saying(0, 1, 0, 11), -1);
        x.table(4, 1);
        Due.is("3: four, first", x.saying(0, 0, 0, 1), 0);
        Due.is("3: four, second", x.saying(0, 0, 1, 0), 1);
        Due.is("3: four, last", x.saying(1, 0, 0, 0), 3);
        x.table(4, 12);
        Due.is("3: 455 of them", x.saying(12, 0, 0, 0), 454);
        Due.is("3: 455 of them", x.saying(0, 12, 0, 0), 90);
        Due.is("3: 455 of them", x.saying(0, 0, 1, 11), 1);
    }

    private static void promise4() {
        PaidForThinking x = new PaidForThinking();
        for (int s = 0; s < 5; s++) {
            Due.is("4: EVENT 0", x.part(s, 0), s);
            Due.is("4: EVENT 1", x.part(s, 1), 4 - s);
        }
        int[][] wrong = {{5, 0}, {-1, 0}, {0, 2}, {0, -1}, {MAX, 0}, {MIN, 0}, {0, MAX}, {0, MIN}};
        for (int[] w : wrong) {
            Due.noPart("4: none such", x, w[0], w[1]);
        }
        x.table(4, 3);
        for (int s = 0; s < x.count(2); s++) {
            Due.is("4: there and back", x.saying(x.part(s, 0), x.part(s, 1), x.part(s, 2), x.part(s, 3)), s);
        }
        Due.is("4: a third EVENT now", x.part(0, 2), 0);
        Due.noPart("4: no fifth", x, 0, 4);
        x.table(3, 2);
        Due.is("4: the third", x.part(0, 2), 2);
        Due.noPart("4: no fourth", x, 0, 3);
        Due.noPart("4: the SAYINGS of the last table are gone", x, 6, 0);
    }

    private static void promise5() {
        PaidForThinking x = Due.with("t", "u");
        Due.is("5: was", x.turn(12, -9999), 144);
        Due.is("5: was", x.turn(12, 9999), -9999);
        Due.is("5: was", x.turn(0, 5), 0);
        Due.is("5: was", x.turn(0, 6), 5);
        int[][] wrong = {{-1, 0}, {13, 0}, {0, 10000}, {0, -10000}, {MIN, 0}, {MAX, 0}, {0, MIN}, {0, MAX}};
        for (int[] w : wrong) {
            Due.is("5: refused", x.turn(w[0], w[1]), -1);
        }
        Due.is("5: refused ones change nothing", x.turn(0, 6), 6);
        Due.is("5: t", x.gets(0, 0, 0), 6);
        Due.is("5: u", x.gets(1, 0, 0), 22);
        x.turn(4, 100);
        Due.is("5: t goes by TURN as it is now", x.gets(0, 4, 0), 100);
        Due.is("5: u goes by TURN as it is now", x.gets(1, 0, 0), 106);
    }

    private static void turnIs(String what, PaidForThinking x, int... due) {
        for (int at = 0; at <= 12; at++) {
            int v = at < due.length ? due[at] : at * at;
            Due.is(what + " at " + at, x.turn(at, v), v);
        }
    }

    private static void promise6() {
        PaidForThinking x = Due.with("t");
        Due.is("6: t goes by squares", x.gets(0, 1, 0), 1);
        Due.is("6: ints", x.sheet(2, 3, 5, 2), 666);
        Due.is("6: t goes by it", x.gets(0, 1, 0), 7);
        turnIs("6: ints", x, 5, 7, 9);
        Due.is("6: none of them", x.sheet(2, 0, 5, 2), 650);
        turnIs("6: none of them", x);
        Due.is("6: bytes go round", x.sheet(0, 3, 127, 1), 127 - 128 - 127 + 650 - 5);
        turnIs("6: bytes", x, 127, -128, -127);
        Due.is("6: bytes of large numbers", x.sheet(0, 2, 511, 257), -1 + 0 + 650 - 1);
        turnIs("6: bytes of large numbers", x, -1, 0);
        Due.is("6: shorts are put to the end", x.sheet(1, 4, 32767, 1), 9999 - 9999 - 9999 - 9999 + 650 - 14);
        turnIs("6: shorts", x, 9999, -9999, -9999, -9999);
        Due.is("6: shorts, the lowest bits", x.sheet(1, 2, 65536 + 5, 65536 + 9), 5 + 14 + 649);
        turnIs("6: shorts, the lowest bits", x, 5, 14);
        Due.is("6: ints are put to the end", x.sheet(2, 3, 9999, 1), 3 * 9999 + 645);
        turnIs("6: ints", x, 9999, 9999, 9999);
        Due.is("6: ints below", x.sheet(2, 2, -9999, -1), -2 * 9999 + 649);
        Due.is("6: ints go round", x.sheet(2, 2, MAX, 1), 649);
        turnIs("6: ints go round", x, 9999, -9999);
        Due.is("6: all 13", x.sheet(0, 13, 100, 1), 1378);
        Due.is("6: n below 0", x.sheet(0, -1, 1, 1), -2);
        Due.is("6: n below 0", x.sheet(2, MIN, 1, 1), -2);
        Due.is("6: n above 13", x.sheet(1, 14, 1, 1), -1);
        Due.is("6: n above 13", x.sheet(3, 14, 1, 1), -1);
        Due.is("6: n far above", x.sheet(0, MAX, 1, 1), -1);
        Due.is("6: another kind", x.sheet(4, 3, 1, 1), -1);
        Due.is("6: another kind", x.sheet(-1, -1, 1, 1), -1);
        turnIs("6: these change nothing", x, 100, 101, 102, 103, 104, 105, 106, 107, 108, 109, 110, 111, 112);
        Due.is("6: a missing one", x.sheet(3, 13, 7, 7), -3);
        turnIs("6: a missing one", x);
        x.turn(1, 8);
        Due.is("6: a missing one, n below 0", x.sheet(3, -1, 7, 7), -3);
        turnIs("6: a missing one, n below 0", x);
        Due.is("6: t goes by squares again", x.gets(0, 2, 0), 4);
    }

    private static void promise7() {
        PaidForThinking x = new PaidForThinking();
        Due.is("7: 1234", x.sign(0x31323334), 4);
        Due.is("7: it is a PAY", x.pay(0), 0);
        Due.is("7: the highest byte first", x.gets(0, 0, 0), 1234);
        Due.is("7: four", x.sign(0x39392d2d), 4);
        Due.is("7: four more behind", x.sign(0x31303030), 8);
        Due.is("7: it is a PAY", x.pay(0), 0);
        Due.is("7: 99--1000", x.gets(0, 0, 0), 1099);
        Due.is("7: bytes above 127", x.sign(0xf1f2f3f4), 4);
        Due.is("7: can't stand", x.pay(0), -1);
        for (int i = 1; i <= 20; i++) {
            Due.is("7: so many", x.sign(-1), 4 * i);
        }
        Due.is("7: more than 80", x.sign(0), -1);
        Due.is("7: 80 still", x.count(8), 80);
        x.end(77);
        Due.is("7: 81 would be more", x.sign(0), -1);
        Due.is("7: 77 still", x.count(8), 77);
        x.end(76);
        Due.is("7: 80 again", x.sign(0), 80);
    }

    private static void promise8() {
        PaidForThinking x = new PaidForThinking();
        Due.is("8: none of none", x.end(0), true);
        Due.is("8: not so many", x.end(1), false);
        x.sign(0x31323334);
        x.sign(0x35363738);
        Due.is("8: all", x.end(8), true);
        Due.is("8: not so many", x.end(9), false);
        Due.is("8: below 0", x.end(-1), false);
        Due.is("8: far below", x.end(MIN), false);
        Due.is("8: far above", x.end(MAX), false);
        Due.is("8: eight still", x.count(8), 8);
        Due.is("8: three", x.end(3), true);
        Due.is("8: three", x.count(8), 3);
        x.pay(0);
        Due.is("8: the first three", x.gets(0, 0, 0), 123);
        x.sign(0x31323334);
        Due.is("8: none", x.end(0), true);
        Due.is("8: none", x.count(8), 0);
    }

    private static String many(String s, int n) {
        StringBuilder b = new StringBuilder();
        for (int i = 0; i < n; i++) {
            b.append(s);
        }
        return b.toString();
    }

    private static void wrongAt(String text, int p) {
        PaidForThinking x = Due.with("7");
        Due.is("9: " + text, Due.tell(x, 0, text), -1 - p);
        Due.is("9: THE TEXT is read behind " + text, x.count(8), 0);
        Due.is("9: the PAY stays behind " + text, x.gets(0, 0, 0), 7);
    }

    private static void promise9() {
        wrongAt("a", 0);
        wrongAt("+q", 0);
        wrongAt("*", 0);
        wrongAt("<q", 0);
        wrongAt(")", 0);
        wrongAt("()", 1);
        wrongAt(" q", 0);
        wrongAt("q ", 1);
        wrongAt("Q", 0);
        wrongAt("\u00e9", 0);
        wrongAt("q\u00ff", 1);
        wrongAt("\0", 0);
        wrongAt("~q", 0);
        wrongAt("q~q", 1);
        wrongAt("q+", 2);
        wrongAt("-", 1);
        wrongAt("q-", 2);
        wrongAt("q*/q", 2);
        wrongAt("q+*q", 2);
        wrongAt("qs", 1);
        wrongAt("q2", 1);
        wrongAt("2q", 1);
        wrongAt("q(", 1);
        wrongAt("2(", 1);
        wrongAt("(q)(", 3);
        wrongAt("(q)2", 3);
        wrongAt("(1)2", 3);
        wrongAt("1+(12)34", 6);
        wrongAt("(q)s", 3);
        wrongAt("12345", 4);
        wrongAt("00000", 4);
        wrongAt("q<t<m", 3);
        wrongAt("q<t>m", 3);
        wrongAt("q<t+m<2", 5);
        wrongAt("q<t*m=2", 5);
        wrongAt("q<-m>2", 4);
        wrongAt("q<(t)>2", 5);
        wrongAt("q=t=m", 3);
        wrongAt("q=<m", 2);
        wrongAt("q<(t=m)=1", 7);
        wrongAt("(q<t<m)", 4);
        wrongAt("(q<t)>(m<1)>1", 11);
        wrongAt("q)", 1);
        wrongAt("(q", 2);
        wrongAt("((q)", 4);
        wrongAt("(q))", 3);
        wrongAt("((((((q))))))", 5);
        wrongAt("(((((q)))))+((((((q))))))", 17);
        wrongAt("q+(((((q+(q)", 9);
        wrongAt("q$" + many("q+", 39), 1);
        wrongAt(many("q+", 30), 60);
        wrongAt(many("q+", 29) + "q*", 60);
        wrongAt(many("q+", 30) + "q", 60);
        wrongAt(many("q+", 29) + "q-)", 60);
        wrongAt(many("q+", 29) + "q q", 59);
        wrongAt(many("q+", 29) + "qqq", 59);
        wrongAt(many("-", 60), 60);
        wrongAt(many("-", 80), 60);
        promise9Right();
    }

    private static void promise9Right() {
        is("9: four digits", "9999", 9999);
        is("9: noughts", "0000", 0);
        is("9: noughts ahead", "0012", 12);
        is("9: five in one another", "(((((q)))))+(((((1)))))", 4);
        is("9: one behind the other in ( )", "(q<9)<(q>9)", 0);
        is("9: two of them in ( )", "(q<9)=(t<99)", 1);
        is("9: bind least", "1+1=2", 1);
        is("9: bind least", "2*3>5+1", 0);
        is("9: bind least", "5<2*3", 1);
        is("9: from the left", "9-3-2", 4);
        is("9: from the left", "9-3+2", 8);
        is("9: from the left", "100/7*7", 98);
        is("9: from the left", "100/10/5", 2);
        is("9: * ahead of +", "2+3*4", 14);
        is("9: ( ) ahead of *", "(2+3)*4", 20);
        is("9: by 0", "7/0", 0);
        is("9: by 0", "7/(q-q)+1", 1);
        is("9: cut to 0", "(0-7)/2", -3);
        is("9: cut to 0", "7/-2", -3);
        is("9: - ahead", "-7", -7);
        is("9: many -", "---7", -7);
        is("9: many -", "5---7", -2);
        is("9: - ahead binds most", "-2*-3", 6);
        is("9: - ahead binds most", "-7/2", -3);
        is("9: - ahead of ( )", "-(2+3)", -5);
        is("9: - behind <", "1<-1", 0);
        is("9: less", "1<2", 1);
        is("9: less", "2<2", 0);
        is("9: more", "2>1", 1);
        is("9: more", "2>2", 0);
        is("9: the same", "2=2", 1);
        is("9: the same", "2=3", 0);
        is("9: as ints", "9999*9999*9999", 9999 * 9999 * 9999);
        is("9: as ints", "9999*9999*21+9999*4766+9999+9999+9999+9999+9999", 9999 * 9999 * 21 + 9999 * 4766 + 9999 * 5);
        is("9: 60 signs", many("q+", 29) + "99", 29 * 3 + 99);
        is("9: 60 signs", many("-", 59) + "q", -3);
        leastByMinusOne();
        behindAWrongOne();
        isNone();
        isNoSuchPay();
    }

    /** -2147483648 by -1 stays what it is. */
    private static void leastByMinusOne() {
        PaidForThinking x = new PaidForThinking();
        Due.is("9: the least int", Due.tell(x, 0, "8192*8192*-32"), 0);
        Due.is("9: the least int", x.gets(0, 0, 0), MIN);
        Due.is("9: the least int by -1", Due.tell(x, 0, "8192*8192*-32/-1"), 0);
        Due.is("9: the least int by -1", x.gets(0, 0, 0), MIN);
        Due.is("9: - ahead of the least int", Due.tell(x, 0, "-(8192*8192*-32)"), 0);
        Due.is("9: - ahead of the least int", x.gets(0, 0, 0), MIN);
    }

    /** What was begun with a wrong text is not gone on with. */
    private static void behindAWrongOne() {
        String[] wrong = {"((((q", "-a", "q<t<m", "12a", "2*(3+4a", "q+"};
        for (String w : wrong) {
            PaidForThinking x = new PaidForThinking();
            Due.is("9: wrong: " + w, Due.tell(x, 0, w) < 0, true);
            Due.is("9: right behind " + w, Due.tell(x, 0, "7<8"), 0);
            Due.is("9: right behind " + w, x.gets(0, 0, 0), 1);
            Due.is("9: wrong: " + w, Due.tell(x, 0, w) < 0, true);
            Due.is("9: wrong behind " + w, Due.tell(x, 0, "7)"), -2);
            Due.is("9: five in one another behind " + w, Due.tell(x, 0, "(((((7)))))"), 0);
            Due.is("9: five in one another behind " + w, x.gets(0, 0, 0), 7);
        }
    }

    /** What a text is for SAYING (3, 1) and EVENT 0. */
    private static void is(String what, String text, int due) {
        PaidForThinking x = Due.with(text);
        Due.is(what + ": " + text, x.gets(0, 3, 0), due);
    }

    private static void isNone() {
        PaidForThinking x = Due.with("q", "q");
        x.make(2);
        Due.is("9: an empty one", Due.tell(x, 0, ""), 0);
        Due.is("9: it is none then", x.count(3), 6);
        Due.is("9: a MADE one too", x.pay(2), 0);
        Due.is("9: it is none then", x.count(3), 2);
        Due.is("9: one that was none", x.pay(3), 0);
        Due.is("9: none still", x.count(3), 2);
        Due.is("9: and told again", Due.tell(x, 2, "5"), 0);
        Due.is("9: it is one", x.count(3), 6);
    }

    private static void isNoSuchPay() {
        int[] wrong = {-1, 4, MIN, MAX};
        for (int i : wrong) {
            PaidForThinking x = new PaidForThinking();
            Due.is("9: no such PAY, asked first", Due.tell(x, i, "?"), -100);
            Due.is("9: THE TEXT is empty", x.count(8), 0);
            Due.is("9: no such PAY", Due.tell(x, i, "q"), -100);
            Due.is("9: no such PAY, empty", x.pay(i), -100);
            Due.is("9: none is told", x.count(3), 0);
        }
    }

    /** Every thing, and every EVENT. */
    private static void promise10() {
        PaidForThinking x = Due.with("q*1000+s*10+x", "m*1000+e*100+n*10+d", "t", "u");
        x.table(3, 5);
        int s = x.saying(2, 1, 2, 0);
        x.turn(0, 50);
        x.turn(1, -3);
        Due.is("10: q s x", x.gets(0, s, 0), 2091);
        Due.is("10: q s x", x.gets(0, s, 1), 1090);
        Due.is("10: x of a second greatest", x.gets(0, s, 2), 2091);
        Due.is("10: m e n d", x.gets(1, s, 0), 2035);
        Due.is("10: m e n d", x.gets(1, s, 1), 2135);
        Due.is("10: m e n d", x.gets(1, s, 2), 2235);
        Due.is("10: t", x.gets(2, s, 0), 4);
        Due.is("10: t", x.gets(2, s, 1), -3);
        Due.is("10: u", x.gets(3, s, 0), 4 - 3 + 4);
        Due.is("10: u counts PARTS of 0 too", x.gets(3, x.saying(0, 0, 5, 0), 1), 50 + 50 + 25);
        x.table(2, 5);
        Due.is("10: u counts no EVENT that is not there", x.gets(3, x.saying(0, 5, 0, 0), 1), 50 + 25);
        Due.is("10: n and d are those of now", x.gets(1, 0, 0), 5025);
        int[][] wrong = {{0, 6, 0}, {0, -1, 0}, {0, 0, 2}, {0, 0, -1}, {4, 0, 0}, {-1, 0, 0}, {MAX, 0, 0}, {MIN, 0, 0},
            {0, MAX, 0}, {0, MIN, 0}, {0, 0, MAX}, {0, 0, MIN}};
        for (int[] w : wrong) {
            Due.noGets("10: none such", x, w[0], w[1], w[2]);
        }
        x.pay(0);
        Due.noGets("10: no PAY", x, 0, 0, 0);
    }

    private static void promise11() {
        PaidForThinking x = Due.with("2*d*q-s", "7", "e*(2-q)");
        Due.is("11: ends", x.ends(0), 0);
        Due.row("11: ends", x, -16, 16, 0, 0);
        Due.is("11: all the same", x.ends(1), 0);
        Due.row("11: all the same", x, 7, 7, 0, 0);
        Due.is("11: the second EVENT has the least", x.ends(2), 0);
        Due.row("11: the second EVENT has the least", x, -2, 2, 0, 1);
        Due.is("11: no PAY", x.ends(3), -1);
        Due.is("11: no PAY", x.ends(4), -1);
        Due.is("11: no PAY", x.ends(-1), -1);
        Due.row("11: the ROW stays", x, -2, 2, 0, 1);
        Due.is("11: the least later", Due.tell(x, 0, "-(q=3)*e"), 0);
        Due.is("11: the least later", x.ends(0), 0);
        Due.row("11: the least later", x, -1, 0, 1, 1);
        Due.tell(x, 0, "-(q=3)*(1-e)");
        x.ends(0);
        Due.row("11: the least later, EVENT 0", x, -1, 0, 3, 0);
        Due.tell(x, 0, "(q=4)*(1-e)");
        x.ends(0);
        Due.row("11: the greatest at the end", x, 0, 1, 0, 0);
        Due.tell(x, 0, "(q=4)*e-1");
        x.ends(0);
        Due.row("11: the greatest of the first SAYING", x, -1, 0, 0, 0);
        Due.is("11: extremes", Due.tell(x, 0, "e*8192*8192*32-(1-e)"), 0);
        x.ends(0);
        Due.row("11: extremes", x, MIN, -1, 0, 1);
    }

    public static void main(String[] args) {
        promise1();
        promise2();
        promise3();
        promise4();
        promise5();
        promise6();
        promise7();
        promise8();
        promise9();
        promise10();
        promise11();
        Due.end("TellingTest");
    }
}
