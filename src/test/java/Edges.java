import java.lang.reflect.InvocationTargetException;
import java.lang.reflect.Method;
import java.util.ArrayList;
import java.util.Arrays;
import java.util.List;
import java.util.function.Consumer;
import java.util.function.Supplier;

/** What the tests of single sentences share: objects full of everything, and what can be seen of an object. */
final class Edges {
    static final int MIN = Integer.MIN_VALUE;
    static final int MAX = Integer.MAX_VALUE;
    /** 8192 times 8192 times 31. */
    static final long HUGE = 2080374784L;
    /** Of five SAYINGS. */
    static final int[] NO_SAYING = {-1, 5, 6, MIN, MAX};
    /** Of two EVENTS. */
    static final int[] NO_EVENT = {-1, 2, 3, MIN, MAX};
    /** In filled(): PAY 3 is none. */
    static final int[] NO_PAY = {-1, 3, 4, MIN, MAX};
    static final int[] NO_PLACE = {-1, 4, MIN, MAX};
    /** In filled(): there are three PEOPLE. */
    static final int[] NOBODY = {-1, 3, 5, 6, MIN, MAX};

    private Edges() {
    }

    /** Two EVENTS and four STEPS, three PAYS (the last one MADE), and something of everything else. */
    static PaidForThinking filled() {
        PaidForThinking x = Due.with("2*d*q-s", "t");
        x.turn(2, -50);
        x.turn(12, 7);
        x.make(2);
        fill(x);
        return x;
    }

    /** The same with three EVENTS and two STEPS. */
    static PaidForThinking filledWithThree() {
        PaidForThinking x = Due.with("2*d*q-s", "t");
        x.table(3, 2);
        x.turn(2, -50);
        x.turn(12, 7);
        x.mix(2, 0, 1, 2, 3);
        fill(x);
        return x;
    }

    private static void fill(PaidForThinking x) {
        x.person(2);
        x.person(3);
        x.evening(0, 2, 0);
        x.evening(1, 4, 1);
        x.evening(0, 3, 0);
        x.word(1, 1, 2);
        x.word(3, 2, 2);
        x.keep(0);
        x.person(1);
        x.evening(2, 0, 1);
        x.evening(0, 1, 1);
        x.word(0, 2, 2);
        x.word(1, 0, 1);
        x.turn(3, 11);
        x.minds(0, 3, 9);
        Due.type(x, "q+7");
    }

    /** Calls that are refused leave an object as one is that was not called. */
    static void refused(Consumer<PaidForThinking> calls) {
        refused(Edges::filled, calls);
    }

    static void refused(Supplier<PaidForThinking> made, Consumer<PaidForThinking> calls) {
        PaidForThinking x = made.get();
        calls.accept(x);
        compare(seen(x), seen(made.get()));
    }

    /** The same, but for calls that read THE TEXT: it is empty behind them. */
    static void refusedReading(Consumer<PaidForThinking> calls) {
        PaidForThinking called = filled();
        calls.accept(called);
        PaidForThinking empty = filled();
        empty.end(0);
        compare(seen(called), seen(empty));
    }

    private static void compare(List<Long> got, List<Long> due) {
        Due.is("changes nothing: so many numbers are seen", got.size(), due.size());
        for (int i = 0; i < Math.min(got.size(), due.size()); i++) {
            Due.is("changes nothing: number " + i + " of what is seen", got.get(i), due.get(i));
        }
    }

    /** All that can be seen of an object; it is used up by that. */
    static List<Long> seen(PaidForThinking x) {
        List<Long> all = new ArrayList<>();
        row(x, all);
        for (int what = 0; what < 9; what++) {
            all.add((long) x.count(what));
        }
        pays(x, all);
        all.add((long) x.pay(3));
        all.add((long) x.count(3));
        all.add((long) x.ends(3));
        row(x, all);
        for (int i = 0; i < 6; i++) {
            all.add((long) x.meant(i));
            row(x, all);
        }
        people(x, all);
        turns(x, all);
        for (int i = 0; i < 3; i++) {
            all.add(x.again(i) ? 1L : 0L);
            people(x, all);
        }
        turns(x, all);
        return all;
    }

    private static void row(PaidForThinking x, List<Long> all) {
        int numbers = x.count(7);
        all.add((long) numbers);
        for (int i = 0; i < numbers; i++) {
            all.add(x.row(i));
        }
    }

    private static void pays(PaidForThinking x, List<Long> all) {
        int sayings = x.count(2);
        int events = x.count(0);
        int there = x.count(3);
        for (int s = 0; s < sayings; s++) {
            all.add((long) x.words(s));
            for (int e = 0; e < events; e++) {
                all.add((long) x.part(s, e));
                for (int p = 0; p < 4; p++) {
                    if ((there >> p & 1) == 1) {
                        all.add((long) x.gets(p, s, e));
                    }
                }
            }
        }
    }

    private static void people(PaidForThinking x, List<Long> all) {
        int people = x.count(4);
        all.add((long) people);
        all.add((long) x.count(5));
        all.add((long) x.count(6));
        for (int who = 0; who < people; who++) {
            all.add((long) x.paid(0, who));
            row(x, all);
            all.add((long) x.boast(0, who));
            row(x, all);
        }
    }

    private static void turns(PaidForThinking x, List<Long> all) {
        for (int at = 0; at < 13; at++) {
            all.add((long) x.turn(at, 0));
        }
    }

    /** What TURN is: these numbers, and squares behind them. */
    static void turnIs(String what, PaidForThinking x, int... due) {
        for (int at = 0; at < 13; at++) {
            int v = at < due.length ? due[at] : at * at;
            Due.is(what + ": TURN at " + at, x.turn(at, v), v);
        }
    }

    static void turnTo(PaidForThinking x, int... to) {
        for (int i = 0; i < to.length; i++) {
            x.turn(i, to[i]);
        }
    }

    /** What a PAY is for all SAYINGS, EVENT 0 and EVENT 1 in turn. */
    static void payIs(String what, PaidForThinking x, int pay, int... due) {
        for (int i = 0; i < due.length; i++) {
            Due.is(what + ": SAYING " + i / 2 + ", EVENT " + i % 2, x.gets(pay, i / 2, i % 2), due[i]);
        }
    }

    static String many(String s, int n) {
        StringBuilder b = new StringBuilder();
        for (int i = 0; i < n; i++) {
            b.append(s);
        }
        return b.toString();
    }

    /** Every test of a class, each by the sentence that it holds the class to. */
    static void run(Class<?> tests) {
        Method[] methods = tests.getDeclaredMethods();
        Arrays.sort(methods, (a, b) -> a.getName().compareTo(b.getName()));
        int sentences = 0;
        for (Method test : methods) {
            Says says = test.getAnnotation(Says.class);
            if (says != null) {
                sentences++;
                one(test, says);
            }
        }
        System.out.println(tests.getName() + ": " + sentences + " tests of a sentence each");
        Due.end(tests.getName());
    }

    private static void one(Method test, Says says) {
        int before = Due.wrong();
        try {
            test.invoke(null);
        } catch (InvocationTargetException e) {
            Due.is(test.getName() + " threw " + e.getCause(), true, false);
        } catch (IllegalAccessException e) {
            Due.is(test.getName() + " can't be called", true, false);
        }
        if (Due.wrong() > before) {
            System.out.println("  so " + test.getName() + " does not hold: promise " + says.promise() + ": " + says.value());
        }
    }
}
