import java.util.function.IntUnaryOperator;
import java.util.function.ToIntFunction;

/** A test for each sentence of "Terms" (and of "What it is") that names an edge. */
public final class EdgeTermsTest {
    private EdgeTermsTest() {
    }

    /** What a text is for SAYING (3, 1) and EVENT 0. */
    private static int of(String text) {
        return Due.with(text).gets(0, 3, 0);
    }

    private static void wrongAt(String text, int p) {
        Due.is("pay of " + text, Due.tell(new PaidForThinking(), 0, text), -1 - p);
    }

    @Says(promise = 0, value = "An object is used for at most 512 calls after it has been made")
    static void theLastOfThemToo() {
        PaidForThinking x = Due.with("2*d*q-s");
        for (int i = 5; i < 510; i++) {
            x.turn(i % 13, i);
        }
        Due.is("call 511", x.best(0, 3), 1);
        Due.is("call 512", x.row(0), 3);
    }

    @Says(promise = 0, value = "EVENTS 2 .. 4 (at first 2), STEPS 1 .. 12 (at first 4).")
    static void eventsAndSteps() {
        PaidForThinking x = new PaidForThinking();
        Due.is("at first two EVENTS", x.count(0), 2);
        Due.is("at first four STEPS", x.count(1), 4);
        for (int events = 1; events <= 5; events++) {
            for (int steps = 0; steps <= 13; steps++) {
                boolean there = events > 1 && events < 5 && steps > 0 && steps < 13;
                Due.is("table(" + events + ", " + steps + ")", x.table(events, steps) != -1, there);
            }
        }
    }

    private static void told(String what, PaidForThinking x, int got, int due, long... row) {
        Due.is(what, got, due);
        Due.row(what, x, row);
    }

    /** Four EVENTS and twelve STEPS: 2 d q - s is STRICT, and the last SAYING is (12, 0, 0, 0). */
    private static PaidForThinking largest() {
        PaidForThinking x = Due.with("2*d*q-s", "7");
        x.table(4, 12);
        x.person(453);
        x.person(0);
        x.evening(1, 454, 3);
        x.word(5, 12, 12);
        return x;
    }

    @Says(promise = 0, value = "EVENTS 2 .. 4 (at first 2), STEPS 1 .. 12 (at first 4).")
    static void theLargestTableOfOne() {
        PaidForThinking x = largest();
        told("ends", x, x.ends(0), 0, -144, 144, 0, 0);
        told("mean", x, x.mean(0, 454, 454), 0, 144, 1);
        told("best", x, x.best(0, 454), 1, 454);
        told("loses", x, x.loses(0, 454, 0), 0, 288, 1);
        told("truly", x, x.truly(0), 2);
        told("bends", x, x.bends(0), 0, -1, 0);
        told("could", x, x.could(0, 454), 1, 454, 454);
        told("alike", x, x.alike(0, 0), 1, 1);
        told("rank", x, x.rank(0, 454, 0), 454, 1728);
        told("look", x, x.look(0, 454, 9999, 0), 0, 0, 1);
        told("purse", x, x.purse(454, 9999, 0), 0, 1);
        told("minds", x, x.minds(0, 454, 9), 454, 1, 1, 144, 1);
        told("lot", x, x.lot(0, 144, 288), 1, 144, 288);
        told("bribe", x, x.bribe(0, 454, 3, 12, 287), 454, 1);
        told("bribe", x, x.bribe(0, 454, 3, 12, 288), 0, 1);
        told("says", x, x.says(0, 454), 0, 0, 0);
        told("middle", x, x.middle(454, 9, 9), 0, 0, 1);
        Due.is("same", x.same(0, 0), 1);
        Due.is("safe", x.safe(0), 2);
        Due.is("mix", x.mix(2, 0, 1, 1, 1), true);
        Due.is("mix", x.gets(2, 454, 3), -137);
        Due.is("lift", x.lift(3, 0), 144);
        Due.is("lift", x.gets(3, 454, 0), 288);
    }

    @Says(promise = 0, value = "EVENTS 2 .. 4 (at first 2), STEPS 1 .. 12 (at first 4).")
    static void theLargestTableOfSeveral() {
        PaidForThinking x = largest();
        // (12, 0, 0, 0) for who thinks (11, 1, 0, 0), against (0, 0, 0, 12)
        Due.is("prize", x.prize(0, 0, 454), 11 * 60 + 30);
        told("boast", x, x.boast(0, 0), 453, 720, 720, 0);
        told("rest", x, x.rest(0), 0, 453, 0);
        told("agree", x, x.agree(0, 454, 454), 454, 0);
        told("decide", x, x.decide(0, 12, 454, 0), 0, 1, 1728, 1728);
        told("coin", x, x.coin(0, 12, 454, 0), 0, 40 * 1728, 40 * 1728);
        Due.is("words", x.words(454), 32);
        told("paid", x, x.paid(0, 1), 1, -144, 144, 0);
        told("first", x, x.first(0), 1, -144, 1);
        told("right", x, x.right(1, 3, 0), 1, 1, 12);
        told("meant", x, x.meant(5), 1, 0, 0);
        told("thinks", x, x.thinks(0, 1), 1, 454, 454);
        x.go();
        x.person(453);
        x.person(453);
        told("boast, against the same", x, x.boast(0, 0), 454, 660, 360, 1);
    }

    @Says(promise = 0, value = "EVENTS 2 .. 4 (at first 2), STEPS 1 .. 12 (at first 4).")
    static void theLeastTable() {
        PaidForThinking x = Due.with("2*d*q-s");
        x.table(2, 1);
        told("ends", x, x.ends(0), 0, -1, 1, 0, 0);
        told("loses", x, x.loses(0, 0, 1), 0, 2, 1);
        told("truly", x, x.truly(0), 2);
        told("could", x, x.could(0, 0), 1, 0, 0);
        told("back", x, x.back(0), 1, 1, 1);
        told("rank", x, x.rank(0, 1, 1), 0, -1);
        told("gain", x, x.gain(0), 0);
        told("peers", x, x.peers(0, 1, 1), 2, 0, 0, 2, 1);
        told("decide", x, x.decide(0, 1, 1, 0), 0, 1, 1, 1);
        told("coin", x, x.coin(0, 1, 1, 0), 0, 40, 40);
        told("says", x, x.says(0, 0), 1, 1, 1);
        told("look", x, x.look(0, 1, 90, 0), 0, 0, 1);
        told("middle", x, x.middle(1, 9, 9), 0, 0, 1);
        Due.is("safe", x.safe(0), 2);
        x.person(1);
        x.evening(0, 1, 0);
        told("right", x, x.right(0, 0, 1), 1, 1, 0);
        told("thinks", x, x.thinks(0, 0), 1, 1, 1);
        Due.is("take", x.take(0), true);
        Edges.turnIs("take", x, 1, 1);
    }

    @Says(promise = 0,
        value = "A SAYING is a row of PARTS, one for each EVENT, whole numbers of 0 or more that are STEPS together")
    static void rowsOfParts() {
        PaidForThinking x = new PaidForThinking();
        x.table(4, 3);
        for (int s = 0; s < 20; s++) {
            int sum = 0;
            for (int e = 0; e < 4; e++) {
                Due.is("0 or more", x.part(s, e) >= 0, true);
                sum += x.part(s, e);
            }
            Due.is("STEPS together", sum, 3);
        }
    }

    @Says(promise = 0, value = "SAYINGS are numbered 0, 1, .. as rows of numbers from the least on.")
    static void fromTheLeastOn() {
        PaidForThinking x = new PaidForThinking();
        x.table(4, 12);
        int[][] due = {{0, 0, 0, 12}, {0, 0, 1, 11}, {0, 0, 2, 10}};
        for (int s = 0; s < due.length; s++) {
            Due.is("SAYING " + s, x.saying(due[s][0], due[s][1], due[s][2], due[s][3]), s);
        }
        Due.is("the first with a PART of EVENT 1", x.saying(0, 1, 0, 11), 13);
        Due.is("the last but two", x.saying(11, 0, 1, 0), 452);
        Due.is("the last but one", x.saying(11, 1, 0, 0), 453);
        Due.is("the last", x.saying(12, 0, 0, 0), 454);
    }

    @Says(promise = 0, value = "a table of whole numbers (-9999 .. 9999) at 0 .. 12 (at first each number's square).")
    static void turnAtFirst() {
        Edges.turnIs("squares", new PaidForThinking());
    }

    @Says(promise = 0, value = "PAYS 0 .. 3 are texts of at most 60 signs (at first none), or MADE of a table.")
    static void atMost60Signs() {
        PaidForThinking x = new PaidForThinking();
        Due.is("at first none", x.count(3), 0);
        Due.is("60", Due.tell(x, 3, Edges.many("-", 58) + "12"), 0);
        Due.is("60", x.gets(3, 0, 0), 12);
        Due.is("61", Due.tell(x, 2, Edges.many("-", 58) + "123"), -61);
        Due.is("61: no PAY", x.count(3), 8);
        Due.is("80", Due.tell(x, 2, Edges.many("-", 78) + "12"), -61);
        Due.is("MADE", x.make(0), 1);
        Due.is("two of them", x.count(3), 9);
    }

    @Says(promise = 0, value = "< > = bind least (two; 1 or 0; not one behind the other)")
    static void comparing() {
        Due.is("less", of("1<2"), 1);
        Due.is("less, equal ones", of("2<2"), 0);
        Due.is("less, a greater one", of("3<2"), 0);
        Due.is("more", of("2>1"), 1);
        Due.is("more, equal ones", of("2>2"), 0);
        Due.is("more, a less one", of("1>2"), 0);
        Due.is("equal", of("2=2"), 1);
        Due.is("equal, a less one", of("1=2"), 0);
        Due.is("equal, a greater one", of("3=2"), 0);
    }

    @Says(promise = 0, value = "< > = bind least (two; 1 or 0; not one behind the other)")
    static void comparingBindsLeast() {
        Due.is("less than +", of("1+1<1+2"), 1);
        Due.is("less than - behind it", of("3>5-3"), 1);
        Due.is("less than - ahead of it", of("5-3=2"), 1);
        Due.is("less than *", of("2*3=3*2"), 1);
        Due.is("less than /", of("1<7/3"), 1);
        Due.is("less than - ahead of a thing", of("-2<-1"), 1);
    }

    @Says(promise = 0, value = "< > = bind least (two; 1 or 0; not one behind the other)")
    static void notOneBehindTheOther() {
        for (String one : new String[] {"<", ">", "="}) {
            for (String other : new String[] {"<", ">", "="}) {
                wrongAt("1" + one + "2" + other + "1", 3);
                wrongAt("1" + one + "2+1" + other + "1", 5);
                wrongAt("(1" + one + "2" + other + "1)", 4);
                Due.is("in ( )", of("(1" + one + "1)" + other + "(2" + other + "2)") <= 1, true);
            }
        }
        wrongAt("1<(2<3)<4", 7);
    }

    @Says(promise = 0, value = "then + - (from the left)")
    static void addedFromTheLeft() {
        Due.is("- -", of("9-3-2"), 4);
        Due.is("- +", of("9-3+2"), 8);
        Due.is("+ -", of("9+3-2"), 10);
        Due.is("less than *", of("9-2*3"), 3);
        Due.is("less than /", of("9/3+6"), 9);
    }

    @Says(promise = 0, value = "then * / (from the left; by 0: 0; cut to 0)")
    static void multipliedFromTheLeft() {
        Due.is("/ *", of("100/7*7"), 98);
        Due.is("* /", of("7*100/7"), 100);
        Due.is("/ /", of("100/10/5"), 2);
    }

    @Says(promise = 0, value = "then * / (from the left; by 0: 0; cut to 0)")
    static void byNought() {
        Due.is("7 by 0", of("7/0"), 0);
        Due.is("-7 by 0", of("-7/0"), 0);
        Due.is("0 by 0", of("0/0"), 0);
        Due.is("by what is 0", of("9/(q-q)+5"), 5);
    }

    @Says(promise = 0, value = "then * / (from the left; by 0: 0; cut to 0)")
    static void cutToNought() {
        Due.is("7 by 2", of("7/2"), 3);
        Due.is("-7 by 2", of("-7/2"), -3);
        Due.is("7 by -2", of("7/-2"), -3);
        Due.is("-7 by -2", of("-7/-2"), 3);
        Due.is("less than 1", of("-1/2"), 0);
    }

    @Says(promise = 0, value = "then - ahead of a thing (any many)")
    static void anyMany() {
        Due.is("one", of("-q"), -3);
        Due.is("two", of("--q"), 3);
        Due.is("59", of(Edges.many("-", 59) + "q"), -3);
        Due.is("behind another -", of("9--q"), 12);
        Due.is("behind *", of("9*--q"), 27);
        Due.is("ahead of ( )", of("-(q+1)"), -4);
        Due.is("binds more than /", of("-7/2*2"), -6);
    }

    @Says(promise = 0, value = "a NUMBER of 1 to 4 digits")
    static void oneToFourDigits() {
        Due.is("one", of("7"), 7);
        Due.is("four", of("9999"), 9999);
        Due.is("noughts", of("0000"), 0);
        Due.is("noughts ahead", of("0070"), 70);
        wrongAt("99999", 4);
        wrongAt("00001", 4);
        wrongAt("1+12345", 6);
        Due.is("four and four", of("9999-9998"), 1);
    }

    @Says(promise = 0, value = "an EXPRESSION in ( ) (at most 5 in one another)")
    static void atMostFive() {
        Due.is("five", of("(((((q)))))"), 3);
        Due.is("five more behind them", of("(((((q)))))*(((((q)))))"), 9);
        wrongAt("((((((q))))))", 5);
        wrongAt("(((((-(q))))))", 6);
        wrongAt("(((((q)))))+((((((q))))))", 17);
        Due.is("six, but not in one another", of("((((q)+(q))))+(q)+(q)"), 12);
    }

    /** EVENT 0 of SAYING (2, 1, 2), five STEPS. */
    private static void thing(String name, int zero, int one, int two) {
        PaidForThinking x = Due.with(name);
        x.table(3, 5);
        x.turn(1, -3);
        int s = x.saying(2, 1, 2, 0);
        Due.is(name + ", EVENT 0", x.gets(0, s, 0), zero);
        Due.is(name + ", EVENT 1", x.gets(0, s, 1), one);
        Due.is(name + ", EVENT 2", x.gets(0, s, 2), two);
    }

    @Says(promise = 0, value = "q the PART said of the EVENT that came")
    static void thingQ() {
        thing("q", 2, 1, 2);
    }

    @Says(promise = 0, value = "s the sum of squares of all PARTS")
    static void thingS() {
        thing("s", 9, 9, 9);
    }

    @Says(promise = 0, value = "m the greatest PART")
    static void thingM() {
        thing("m", 2, 2, 2);
    }

    @Says(promise = 0, value = "x 1 if q is m (else 0)")
    static void thingX() {
        thing("x", 1, 0, 1);
    }

    @Says(promise = 0, value = "t TURN at q")
    static void thingT() {
        thing("t", 4, -3, 4);
    }

    @Says(promise = 0, value = "u the sum of TURN at all PARTS")
    static void thingU() {
        thing("u", 5, 5, 5);
        PaidForThinking x = Due.with("u");
        x.turn(0, 100);
        Due.is("a PART of 0 too", x.gets(0, 4, 1), 116);
        Due.is("but of an EVENT that is there", x.gets(0, 2, 1), 8);
    }

    @Says(promise = 0, value = "e the number of the EVENT, n EVENTS, d STEPS.")
    static void thingsEND() {
        thing("e", 0, 1, 2);
        thing("n", 3, 3, 3);
        thing("d", 5, 5, 5);
    }

    @Says(promise = 0, value = "As ints.")
    static void wrapAround() {
        Due.is("the least int", of("8192*8192*32"), Edges.MIN);
        Due.is("above the greatest int", of("8192*8192*31+8192*8192"), Edges.MIN);
        Due.is("below the least int", of("8192*8192*32-1"), Edges.MAX);
        Due.is("once around", of("8192*8192*64"), 0);
        Due.is("- ahead of the least int", of("-(8192*8192*32)"), Edges.MIN);
        Due.is("the least int by -1", of("8192*8192*32/-1"), Edges.MIN);
        Due.is("many times around", of("9999*9999*9999"), (int) (9999L * 9999 * 9999));
        Due.is("less is as ints too", of("8192*8192*32<0"), 1);
    }

    @Says(promise = 0, value = "the sum over EVENTS of the THOUGHT's PART times what the PAY is.")
    static void worth() {
        PaidForThinking x = Due.with("q*(e+1)", "8192*8192*31");
        x.table(4, 12);
        int s = x.saying(1, 2, 3, 6);
        int t = x.saying(2, 0, 1, 9);
        Due.is("told", x.mean(0, s, t), 0);
        Due.row("2 + 0 + 9 + 216 by 12", x, 227, 12);
        x.rank(1, t, 0);
        Due.row("more than an int", x, 12 * Edges.HUGE);
    }

    @Says(promise = 0, value = "A SAYING is BEST for a THOUGHT, if none is WORTH more")
    static void bestOnes() {
        PaidForThinking x = Due.with("1-(q=1)-(q=3)");
        Due.is("three are equal", x.best(0, 1), 3);
        Due.row("three are equal", x, 0, 2, 4);
    }

    @Says(promise = 0, value = "A PAY is HONEST, if each THOUGHT is BEST for itself; STRICT, if it alone is.")
    static void honestAndStrict() {
        PaidForThinking x = Due.with("2*d*q-s", "7", "q");
        Due.is("STRICT", x.truly(0), 2);
        Due.is("HONEST", x.truly(1), 1);
        Due.is("neither", x.truly(2), 0);
    }

    @Says(promise = 0, value = "PEOPLE 0 .. 5 (at most): a THOUGHT each.")
    static void atMostSixPeople() {
        PaidForThinking x = Due.with("7");
        for (int i = 0; i < 6; i++) {
            Due.is("one more", x.person((i + 3) % 5), i);
        }
        Due.is("no seventh", x.person(0), -1);
        x.rest(0);
        Due.row("a THOUGHT each", x, 3, 4, 0, 1, 2, 3);
    }

    @Says(promise = 0, value = "at most 40 EVENINGS: who, SAYING, EVENT.")
    static void atMost40Evenings() {
        PaidForThinking x = Due.with("q*10+e");
        x.person(0);
        x.person(1);
        for (int i = 0; i < 39; i++) {
            x.evening(0, 0, 0);
        }
        Due.is("the fortieth", x.evening(1, 1, 1), 40);
        Due.is("no more", x.evening(1, 1, 1), -1);
        Due.is("who", x.paid(0, 1), 1);
        Due.is("its SAYING and EVENT", x.row(0), 31);
    }

    @Says(promise = 0, value = "of a PART (of EVENT 0) from .. to.")
    static void wordsFromTo() {
        PaidForThinking x = new PaidForThinking();
        x.word(0, 1, 3);
        x.word(5, 2, 2);
        int[] due = {0, 1, 33, 1, 0};
        for (int s = 0; s < 5; s++) {
            Due.is("SAYING " + s, x.words(s), due[s]);
        }
    }

    /** Every call that tells a ROW, with what it is told by and with what NONE, -2, -3 are answered. */
    @Says(promise = 0, value = "numbers told last by a call that says so (behind -2, -3, NONE it stays).")
    static void theRowStays() {
        PaidForThinking x = Due.with("2*d*q-s");
        x.person(2);
        x.mean(0, 3, 3);
        int[] none = {x.ends(1), x.mean(1, 0, 0), x.best(0, 5), x.loses(0, 5, 0), x.truly(1), x.bends(1), x.could(0, 5),
            x.alike(0, 1), x.back(1), x.rank(0, 0, -1), x.look(0, 0, 100, 0), x.purse(0, 0, -1), x.minds(0, 0, 0),
            x.lot(0, 0, 0), x.bribe(0, 0, 0, 0, -1), x.boast(0, 1), x.rest(1), x.agree(0, 5, 0), x.gain(1),
            x.peers(0, 5, 0), x.decide(0, 13, 0, 0), x.coin(0, 13, 0, 0), x.says(0, 5), x.middle(5, 0, 0), x.paid(0, 1),
            x.first(1), x.right(0, 0, 13), x.meant(0), x.thinks(0, 1), x.sheet(4, 0, 0, 0), x.turn(13, 0)};
        for (int answer : none) {
            Due.is("NONE", answer, -1);
        }
        Due.row("behind NONE", x, 10, 1);
        int[] two = {x.rank(0, 0, 5), x.purse(2, 99, 5), x.first(0), x.sheet(0, -1, 0, 0)};
        for (int answer : two) {
            Due.is("-2", answer, -2);
        }
        Due.row("behind -2", x, 10, 1);
        Due.is("-3", x.sheet(3, 0, 0, 0), -3);
        x.table(4, 7);
        Due.is("-3", x.gain(0), -3);
        Due.is("-3", x.peers(0, 0, 0), -3);
        Due.row("behind -3", x, 10, 1);
    }

    private interface Call {
        int on(PaidForThinking x);
    }

    @Says(promise = 0, value = "numbers told last by a call that says so (behind -2, -3, NONE it stays).")
    static void theLastAlone() {
        PaidForThinking x = Due.with("2*d*q-s");
        x.table(2, 12);
        x.person(0);
        x.evening(0, 0, 0);
        x.word(0, 0, 12);
        Call[] calls = {y -> y.ends(0), y -> y.mean(0, 0, 0), y -> y.best(0, 0), y -> y.loses(0, 0, 0), y -> y.truly(0),
            y -> y.bends(0), y -> y.could(0, 0), y -> y.alike(0, 0), y -> y.rank(0, 0, 0), y -> y.look(0, 6, 90, 1),
            y -> y.purse(6, 90, 1), y -> y.minds(0, 0, 1), y -> y.lot(0, 0, 1), y -> y.bribe(0, 0, 0, 0, 0),
            y -> y.boast(0, 0), y -> y.rest(0), y -> y.agree(0, 0, 1), y -> y.gain(0), y -> y.peers(0, 0, 0),
            y -> y.decide(0, 0, 0, 0), y -> y.coin(0, 0, 0, 0), y -> y.says(0, 0), y -> y.middle(0, 1, 1),
            y -> y.paid(0, 0), y -> y.first(0), y -> y.right(0, 0, 0), y -> y.meant(0), y -> y.thinks(0, 0)};
        int[] due = {4, 2, 1, 2, 0, 2, 2, 1, 1, 2, 1, 4, 2, 1, 3, 1, 1, 2, 4, 3, 2, 2, 2, 3, 2, 2, 2, 2};
        for (int i = 0; i < calls.length; i++) {
            Due.is("13 numbers", x.back(0) + x.count(7), 14);
            calls[i].on(x);
            Due.is("numbers of call " + i, x.count(7), due[i]);
        }
    }

    @Says(promise = 0, value = "numbers told last by a call that says so (behind -2, -3, NONE it stays).")
    static void noOtherCallTellsIt() {
        PaidForThinking x = Due.with("2*d*q-s", "7");
        x.mean(0, 3, 3);
        x.saying(4, 0, 0, 0);
        x.part(0, 0);
        x.turn(0, 1);
        x.sheet(2, 1, 0, 0);
        x.gets(0, 0, 0);
        x.same(0, 1);
        x.make(2);
        x.take(0);
        x.mix(2, 0, 1, 1, 1);
        x.lift(2, 0);
        x.safe(0);
        x.person(3);
        x.prize(0, 0, 1);
        x.word(0, 0, 0);
        x.words(0);
        x.evening(0, 0, 0);
        x.forget();
        x.keep(0);
        x.again(0);
        x.count(0);
        x.go();
        x.sign(0);
        x.end(0);
        x.pay(3);
        x.table(3, 2);
        Due.row("the ROW of mean()", x, 10, 1);
    }

    private static void fraction(String pay, int saying, int thought, long upper, long lower) {
        PaidForThinking x = Due.with(pay);
        x.mean(0, saying, thought);
        Due.row(pay, x, upper, lower);
    }

    @Says(promise = 0,
        value = "Fractions are told in lowest terms, upper number (below 0 it may be) and lower one (0 by 1).")
    static void lowestTerms() {
        fraction("q", 3, 1, 3, 2);
        fraction("e", 0, 3, 1, 4);
        fraction("q", 4, 3, 3, 1);
        fraction("8192*8192*31+1", 0, 0, Edges.HUGE + 1, 1);
    }

    @Says(promise = 0,
        value = "Fractions are told in lowest terms, upper number (below 0 it may be) and lower one (0 by 1).")
    static void below0() {
        fraction("-q", 3, 1, -3, 2);
        fraction("-e", 0, 3, -1, 4);
        fraction("8192*8192*-32", 0, 0, Edges.MIN, 1);
    }

    @Says(promise = 0,
        value = "Fractions are told in lowest terms, upper number (below 0 it may be) and lower one (0 by 1).")
    static void noughtByOne() {
        fraction("0", 3, 1, 0, 1);
        fraction("q", 4, 0, 0, 1);
        fraction("2-q", 3, 2, 0, 1);
    }

    @Says(promise = 0, value = "Rows of numbers are compared from the first on.")
    static void comparedFromTheFirstOn() {
        PaidForThinking x = new PaidForThinking();
        x.table(3, 12);
        Due.is("a great PART behind a small one", x.saying(0, 12, 0, 0), 12);
        Due.is("a small PART behind a greater one", x.saying(1, 0, 11, 0), 13);
    }

    /** Every call that asks a PAY, asked for some number. */
    private static void askedFor(int pay) {
        PaidForThinking x = Due.with("q");
        x.person(0);
        int[] answers = {x.ends(pay), x.mean(pay, 0, 0), x.best(pay, 0), x.loses(pay, 0, 0), x.truly(pay), x.bends(pay),
            x.could(pay, 0), x.same(pay, 0), x.same(0, pay), x.alike(pay, 0), x.alike(0, pay), x.back(pay), x.lift(1, pay),
            x.rank(pay, 0, 0), x.look(pay, 0, 0, 0), x.minds(pay, 0, 1), x.lot(pay, 0, 9), x.bribe(pay, 0, 0, 0, 0),
            x.safe(pay), x.prize(pay, 0, 0), x.boast(pay, 0), x.rest(pay), x.agree(pay, 0, 0), x.gain(pay),
            x.peers(pay, 0, 0), x.decide(pay, 0, 0, 0), x.coin(pay, 0, 0, 0), x.says(pay, 0), x.paid(pay, 0),
            x.first(pay), x.thinks(pay, 0)};
        for (int i = 0; i < answers.length; i++) {
            Due.is("asked for PAY " + pay + ", call " + i, answers[i], -1);
        }
        Due.is("take", x.take(pay), false);
        Due.is("mix", x.mix(1, pay, 0, 1, 1), false);
        Due.is("mix", x.mix(1, 0, pay, 1, 1), false);
        Due.noGets("gets", x, pay, 0, 0);
    }

    @Says(promise = 0, value = "Where a PAY is asked that is none: NONE.")
    static void thatIsNone() {
        askedFor(1);
        askedFor(3);
    }

    @Says(promise = 0, value = "Where a PAY is asked that is none: NONE.")
    static void thatNeverIs() {
        askedFor(-1);
        askedFor(4);
        askedFor(Edges.MIN);
        askedFor(Edges.MAX);
    }

    @Says(promise = 0,
        value = "Refused calls answer NONE, or false, and change nothing but THE TEXT, which a call that reads it "
        + "empties.")
    static void aTextThatIsWrong() {
        Edges.refusedReading(x -> Due.is("q*", Due.tell(x, 0, "q*"), -3));
        Edges.refusedReading(x -> Due.is("61 signs", Due.tell(x, 2, Edges.many("-", 60) + "1"), -61));
        Edges.refusedReading(x -> Due.is("?", Due.tell(x, 3, "?"), -1));
    }

    @Says(promise = 0,
        value = "Refused calls answer NONE, or false, and change nothing but THE TEXT, which a call that reads it "
        + "empties.")
    static void onlyPayReadsIt() {
        PaidForThinking x = Edges.filled();
        IntUnaryOperator[] calls = {x::ends, x::truly, x::make, x::back, x::safe, x::person, x::rest, x::gain, x::words,
            x::first, x::meant};
        for (IntUnaryOperator call : calls) {
            Due.is("refused", call.applyAsInt(-1), -1);
            Due.is("THE TEXT stays", x.count(8), 3);
        }
        Due.is("refused", x.table(5, 5), -1);
        Due.is("refused", x.end(4), false);
        Due.is("THE TEXT stays", x.count(8), 3);
        Due.is("and is what it was", x.pay(3), 0);
        Due.is("q+7", x.gets(3, 4, 0), 11);
    }

    private static void ahead(String what, ToIntFunction<PaidForThinking> call) {
        PaidForThinking x = Due.with("q");
        x.table(4, 7);
        Due.is(what, call.applyAsInt(x), -1);
    }

    @Says(promise = 0, value = "NONE is asked ahead of other answers below 0 (what a TEXT tells wrongly aside).")
    static void askedAhead() {
        ahead("sheet: another kind, n below 0", x -> x.sheet(4, -1, 0, 0));
        ahead("sheet: a missing one, n above 13", x -> x.sheet(3, 14, 0, 0));
        ahead("rank: no PAY, not so many", x -> x.rank(1, 0, 120));
        ahead("rank: no THOUGHT, not so many", x -> x.rank(0, 120, 120));
        ahead("purse: no THOUGHT, by none", x -> x.purse(120, 0, 9999));
        ahead("purse: lights, by none", x -> x.purse(0, 10000, 9999));
        ahead("purse: cost, by none", x -> x.purse(0, 0, 10000));
        ahead("safe: no PAY", x -> x.safe(1));
        ahead("gain: no PAY, more than 91", x -> x.gain(1));
        ahead("peers: no PAY, more than 91", x -> x.peers(1, 0, 0));
        ahead("peers: no SAYING, more than 91", x -> x.peers(0, 120, 0));
        ahead("peers: no other SAYING, more than 91", x -> x.peers(0, 0, 120));
        ahead("coin: no PAY", x -> x.coin(1, 0, 0, 0));
        ahead("first: no PAY, nobody", x -> x.first(1));
        ahead("rest: no PAY, nobody", x -> x.rest(1));
    }

    @Says(promise = 0, value = "NONE is asked ahead of other answers below 0 (what a TEXT tells wrongly aside).")
    static void whatATextTellsAside() {
        PaidForThinking x = new PaidForThinking();
        Due.is("no such PAY is -100", Due.tell(x, 4, "q"), -100);
        Due.is("the first sign is -1", Due.tell(x, 0, "?"), -1);
        Due.is("-2 is the second one", Due.tell(x, 0, "q?"), -2);
    }

    public static void main(String[] args) {
        Edges.run(EdgeTermsTest.class);
    }
}
