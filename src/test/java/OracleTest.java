import java.util.NoSuchElementException;

/** Long runs of calls, the class and Naive side by side: every answer and the whole ROW behind each. */
public final class OracleTest {
    private static final String[] TEXTS = {
        "2*d*q-s", "q", "7", "q*2+e", "x*10-3", "t-u", "q*q", "2*t-u/2", "-(q<2)*5+e*q", "x", "m-q",
        "(q>1)*9-s", "2*d*q-s+e*7", "100*q/(m+1)", "9999*9999*9999*q", "q*9999*9999-s*9999*9999",
        "4*d*q-2*s", "0-t", "-s", "e", "n*d-q", "0-9999*9999*9-9*9999*9999-q", "q*(d-q)", "t*e-u", "(q=m)*(e+1)",
        "40*q-20*s/d", "q-d", "q/0+x*3", "200*d*q-100*s", "1-x", "s-2*d*q", "q-2", "x*q-d/2",
    };
    private static final String SIGNS = "qsmxtuend0123456789+-*/<>=()()-- qz\u00e9";

    private long seed;
    private PaidForThinking x;
    private Naive y;
    private String last;

    private OracleTest(long seed) {
        this.seed = seed * 7919 + 17;
        x = new PaidForThinking();
        y = new Naive();
    }

    private int next(int bound) {
        seed = seed * 6364136223846793005L + 1442695040888963407L;
        return (int) ((seed >>> 33) % bound);
    }

    /** Mostly inside, sometimes just outside, now and then far outside. */
    private int near(int low, int high) {
        int how = next(60);
        if (how == 0) {
            return low - 1;
        }
        if (how == 1) {
            return high + 1;
        }
        if (how == 2) {
            int[] far = {Integer.MIN_VALUE, Integer.MAX_VALUE, -1, 1000000, 99999};
            return far[next(far.length)];
        }
        if (how == 3) {
            return low;
        }
        if (how == 4) {
            return high;
        }
        return low + next(high - low + 1);
    }

    private int s() {
        return near(0, y.all.size() - 1);
    }

    private int e() {
        return near(0, y.events - 1);
    }

    private int p() {
        return near(0, 3);
    }

    private int who() {
        int n = y.now.people.size();
        return near(0, n == 0 ? 0 : n - 1);
    }

    private int lights() {
        int end = 1;
        for (int i = 0; i < y.events; i++) {
            end *= 10;
        }
        return near(0, end - 1);
    }

    private int cost() {
        return next(3) == 0 ? near(0, 9999) : near(0, 40);
    }

    private void type(String signs) {
        Due.is(last, x.end(0), y.end(0));
        for (int i = 0; i < signs.length(); i += 4) {
            int four = 0;
            for (int k = 0; k < 4; k++) {
                four = four << 8 | (i + k < signs.length() ? signs.charAt(i + k) : next(256));
            }
            Due.is("sign", x.sign(four), y.sign(four));
        }
        Due.is(last, x.end(signs.length()), y.end(signs.length()));
    }

    private String mess() {
        StringBuilder b = new StringBuilder();
        int length = next(4) == 0 ? 50 + next(31) : 1 + next(12);
        while (b.length() < length) {
            b.append(next(3) == 0 ? String.valueOf(SIGNS.charAt(next(SIGNS.length()))) : piece());
        }
        return b.length() > 80 ? b.substring(0, 80) : b.toString();
    }

    private String piece() {
        String[] pieces = {"q+", "q*(", "t-", "12", ")", "e", "-", "<", "=", "x*", "(", "s/", "9999", "m", "+u"};
        return pieces[next(pieces.length)];
    }

    private void tell(String what, int got, int due) {
        Due.is(what, got, due);
    }

    private void told(int pay, String text) {
        last = "pay(" + pay + ") of " + text;
        type(text);
        tell(last, x.pay(pay), y.pay(pay));
    }

    private void throwing(int which, int a, int b, int c) {
        long got = Long.MIN_VALUE;
        long due = Long.MIN_VALUE;
        try {
            got = which == 0 ? x.part(a, b) : which == 1 ? x.gets(a, b, c) : x.row(a);
        } catch (NoSuchElementException none) {
            got = Long.MAX_VALUE;
        }
        try {
            due = which == 0 ? y.part(a, b) : which == 1 ? y.gets(a, b, c) : y.row(a);
        } catch (NoSuchElementException none) {
            due = Long.MAX_VALUE;
        }
        Due.is("throwing call " + which + " of " + a + ", " + b + ", " + c, got, due);
    }

    private void step(int table) {
        int what = next(64);
        last = "call kind " + what;
        if (what < 4) {
            told(p(), TEXTS[next(TEXTS.length)]);
        } else if (what < 6) {
            told(p(), mess());
        } else if (what < 24) {
            first(what);
        } else if (what < 44) {
            second(what);
        } else {
            third(what, table);
        }
        int some = next(11) - 1;
        Due.is(last + ": count(" + some + ")", x.count(some), y.count(some));
        int numbers = x.count(7);
        Due.is(last + ": numbers of the ROW", numbers, y.row.length);
        for (int i = 0; i < Math.min(numbers, y.row.length); i++) {
            Due.is(last + ": row(" + i + ")", x.row(i), y.row[i]);
        }
    }

    /** PEOPLE and EVENINGS as many as there can be, or nearly. */
    private void fill() {
        for (int i = 0; i < 6; i++) {
            int t = next(y.all.size());
            Due.is("person", x.person(t), y.person(t));
        }
        for (int i = next(4); i < 40; i++) {
            int w = next(6);
            int s = next(y.all.size());
            int e = next(y.events);
            Due.is("evening", x.evening(w, s, e), y.evening(w, s, e));
        }
    }

    private void first(int what) {
        int p = p();
        int o = p();
        int s = s();
        int t = s();
        int e = e();
        switch (what) {
            case 6: tell("ends", x.ends(p), y.ends(p)); break;
            case 7: tell("mean", x.mean(p, s, t), y.mean(p, s, t)); break;
            case 8: tell("best", x.best(p, t), y.best(p, t)); break;
            case 9: tell("loses", x.loses(p, s, t), y.loses(p, s, t)); break;
            case 10: tell("truly", x.truly(p), y.truly(p)); break;
            case 11: tell("bends", x.bends(p), y.bends(p)); break;
            case 12: tell("could", x.could(p, s), y.could(p, s)); break;
            case 13: tell("same", x.same(p, o), y.same(p, o)); break;
            case 14: tell("alike", x.alike(p, o), y.alike(p, o)); break;
            case 15: throwing(1, p, s, e); break;
            case 16: throwing(0, s, e, 0); break;
            case 17: throwing(2, near(0, 12), 0, 0); break;
            case 18: {
                int i = p();
                tell("make", x.make(i), y.make(i));
                break;
            }
            case 19: tell("back", x.back(p), y.back(p)); break;
            case 20: Due.is("take", x.take(p), y.take(p)); break;
            case 21: {
                int i = p();
                int a = near(-9, 9);
                int b = near(-9, 9);
                Due.is("mix", x.mix(i, p, o, a, b), y.mix(i, p, o, a, b));
                break;
            }
            case 22: {
                int i = p();
                tell("lift", x.lift(i, p), y.lift(i, p));
                break;
            }
            default: {
                int k = s();
                tell("rank", x.rank(p, t, k), y.rank(p, t, k));
            }
        }
    }

    private void second(int what) {
        int p = p();
        int s = s();
        int t = s();
        int e = e();
        int w = who();
        int lights = lights();
        int cost = cost();
        int least = near(0, y.steps);
        switch (what) {
            case 24: tell("look", x.look(p, t, lights, cost), y.look(p, t, lights, cost)); break;
            case 25: tell("purse", x.purse(t, lights, cost), y.purse(t, lights, cost)); break;
            case 26: {
                int m = near(1, 9);
                tell("minds", x.minds(p, t, m), y.minds(p, t, m));
                break;
            }
            case 27: {
                int add = near(-20, 9999);
                int top = near(1, 9999);
                tell("lot", x.lot(p, add, top), y.lot(p, add, top));
                break;
            }
            case 28: {
                int gift = cost();
                tell("bribe", x.bribe(p, t, e, least, gift), y.bribe(p, t, e, least, gift));
                break;
            }
            case 29: tell("safe", x.safe(p), y.safe(p)); break;
            case 30: case 31: tell("person", x.person(t), y.person(t)); break;
            case 32: tell("prize", x.prize(p, w, s), y.prize(p, w, s)); break;
            case 33: tell("boast", x.boast(p, w), y.boast(p, w)); break;
            case 34: tell("rest", x.rest(p), y.rest(p)); break;
            case 35: tell("agree", x.agree(p, s, t), y.agree(p, s, t)); break;
            case 36: tell("gain", x.gain(p), y.gain(p)); break;
            case 37: tell("peers", x.peers(p, s, t), y.peers(p, s, t)); break;
            case 38: tell("decide", x.decide(p, least, s, t), y.decide(p, least, s, t)); break;
            case 39: case 40: tell("coin", x.coin(p, least, s, t), y.coin(p, least, s, t)); break;
            case 41: tell("says", x.says(p, t), y.says(p, t)); break;
            case 42: {
                int a = near(0, 9);
                int b = near(0, 9);
                tell("middle", x.middle(t, a, b), y.middle(t, a, b));
                break;
            }
            default: tell("evening", x.evening(w, s, e), y.evening(w, s, e));
        }
    }

    private void third(int what, int table) {
        int p = p();
        int s = s();
        int e = e();
        int w = who();
        int i = near(0, 5);
        switch (what) {
            case 44: {
                int from = near(0, y.steps);
                int to = near(0, y.steps);
                Due.is("word", x.word(i, from, to), y.word(i, from, to));
                break;
            }
            case 45: tell("words", x.words(s), y.words(s)); break;
            case 46: case 47: case 48: case 49: tell("evening", x.evening(w, s, e), y.evening(w, s, e)); break;
            case 50: tell("forget", x.forget(), y.forget()); break;
            case 51: tell("paid", x.paid(p, w), y.paid(p, w)); break;
            case 52: tell("first", x.first(p), y.first(p)); break;
            case 53: {
                int k = near(0, y.steps);
                tell("right", x.right(w, e, k), y.right(w, e, k));
                break;
            }
            case 54: tell("meant", x.meant(i), y.meant(i)); break;
            case 55: tell("thinks", x.thinks(p, w), y.thinks(p, w)); break;
            case 56: {
                int k = near(0, 2);
                Due.is("keep", x.keep(k), y.keep(k));
                break;
            }
            case 57: {
                int k = near(0, 2);
                Due.is("again", x.again(k), y.again(k));
                break;
            }
            case 58: {
                int at = near(0, 12);
                int v = next(2) == 0 ? near(-9999, 9999) : near(-30, 150);
                tell("turn", x.turn(at, v), y.turn(at, v));
                break;
            }
            case 59: {
                int kind = near(0, 3);
                int n = near(0, 13);
                int f = next(3) == 0 ? next(Integer.MAX_VALUE) - 1000000000 : near(-200, 200);
                int step = next(3) == 0 ? next(Integer.MAX_VALUE) : near(-20, 20);
                tell("sheet", x.sheet(kind, n, f, step), y.sheet(kind, n, f, step));
                break;
            }
            case 60: {
                if (next(6) == 0) {
                    tell("go", x.go(), y.go());
                }
                break;
            }
            case 61: {
                int a = near(0, y.steps);
                int b = near(0, y.steps);
                int c = y.events > 2 ? near(0, y.steps) : near(0, 0);
                int d = next(3) == 0 ? 0 : y.steps - a - b - c;
                tell("saying", x.saying(a, b, c, d), y.saying(a, b, c, d));
                break;
            }
            case 62: {
                if (next(4) == 0) {
                    anotherTable(table);
                }
                break;
            }
            default: {
                int n = near(0, 80);
                int v = next(Integer.MAX_VALUE);
                tell("sign", x.sign(v), y.sign(v));
                Due.is("end", x.end(n), y.end(n));
                tell("pay", x.pay(p), y.pay(p));
            }
        }
    }

    private void anotherTable(int table) {
        int events = near(2, 4);
        int steps = table == 0 ? near(1, 4) : events == 2 ? near(1, 12) : events == 3 ? near(1, 7) : near(1, 4);
        tell("table", x.table(events, steps), y.table(events, steps));
    }

    /** As many steps as one object may be called for: each answer that is asked is one call. */
    private void run(int calls, int table) {
        int before = Due.asked();
        if (next(4) == 0) {
            fill();
        }
        while (Due.asked() - before < calls) {
            step(table);
        }
    }

    /** The largest tables are few: Naive is slow there. */
    private static void large(int events, int steps, long seed) {
        int calls = 400 - (events - 2) * 150;
        OracleTest run = new OracleTest(seed);
        Due.is("table", run.x.table(events, steps), run.y.table(events, steps));
        run.run(calls, 0);
    }

    public static void main(String[] args) {
        int runs = args.length > 0 ? Integer.parseInt(args[0]) : 400;
        for (int i = 0; i < runs; i++) {
            new OracleTest(i).run(440, i % 3);
            OracleTest run = new OracleTest(i + 100000);
            int events = 2 + i % 3;
            int steps = 1 + i % (events == 4 ? 4 : 6);
            Due.is("table", run.x.table(events, steps), run.y.table(events, steps));
            run.run(440, i % 3);
        }
        for (int i = 0; i < 4; i++) {
            large(2, 12, i);
            large(3, 12, i);
            large(4, 12, i);
        }
        Due.end("OracleTest");
    }
}
