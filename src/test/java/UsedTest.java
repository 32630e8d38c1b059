import java.util.ArrayList;
import java.util.Arrays;
import java.util.List;
import java.util.NoSuchElementException;
import java.util.function.Supplier;

/**
 * What was there before a table leaves nothing behind it: an object that has been through the largest
 * table, with PAYS, PEOPLE and EVENINGS that are large there, answers as a fresh one does.
 */
public final class UsedTest {
    private static final int[][] TABLES = {{2, 1}, {2, 4}, {3, 1}, {3, 3}, {4, 2}};
    private static final String[][] PAYS = {
        {"2*d*q-s", "q", "7", "x"},
        {"-(q+e*3)", "t-u", "m*q-s", "0-9"},
        {"q=2", "(q=1)*(e+1)", "e-q*q", "-(2*d*q-s)-50"},
    };
    /** They make of SAYINGS and EVENTS of the large table as much as can be, of each sign. */
    private static final String[] BEFORE = {"8192*8192*31*(q+1)", "9999*9999*(e+1)", "0-8192*8192*31", "q*9999"};

    private UsedTest() {
    }

    private static PaidForThinking used() {
        PaidForThinking x = Due.with(BEFORE);
        x.table(4, 12);
        for (int i = 0; i < 6; i++) {
            x.person(449 + i);
            x.word(i, i, 12);
        }
        for (int i = 0; i < 40; i++) {
            x.evening(i % 6, 454 - i, i % 4);
        }
        for (int p = 0; p < 4; p++) {
            x.ends(p);
            x.truly(p);
            x.minds(p, 454, 9);
            x.boast(p, p);
            x.coin(p, 3, 454, 0);
            x.paid(p, 3);
            x.look(p, 454, 9999, 0);
            x.mix(p, p, p, 1, 0);
            x.ends(p);
        }
        x.keep(0);
        x.best(1, 0);
        return x;
    }

    private static PaidForThinking begun(PaidForThinking x, int[] table, String[] pays) {
        x.table(table[0], table[1]);
        for (int i = 0; i < 4; i++) {
            Due.tell(x, i, pays[i]);
        }
        int n = x.count(2);
        for (int i = 0; i < 3; i++) {
            x.person(i * 2 % n);
        }
        for (int i = 0; i < 7; i++) {
            x.evening(i % 2, i % n, i % table[0]);
        }
        x.word(1, 0, 1);
        x.best(0, 0);
        return x;
    }

    /** All that the calls answer, each with the ROW behind it; each object is asked for some of it alone. */
    private static List<Long> answers(Supplier<PaidForThinking> made) {
        List<Long> all = new ArrayList<>();
        int n = made.get().count(2);
        for (int p = 0; p < 4; p++) {
            ofPay(made.get(), p, all);
            for (int t = 0; t < n; t++) {
                ofThought(made.get(), p, t, n, all);
            }
        }
        ofTheRest(made.get(), all);
        return all;
    }

    private static void ofTheRest(PaidForThinking x, List<Long> all) {
        for (int i = 0; i < 7; i++) {
            add(x, all, x.meant(i));
            add(x, all, x.words(i));
            add(x, all, x.right(i, 0, 1));
            add(x, all, x.right(i, 1, i));
        }
        add(x, all, x.again(0) ? 1 : 0);
        add(x, all, x.saying(0, 0, 5, 7));
        add(x, all, x.saying(0, 1, 0, 11));
        for (int s = -1; s < 20; s++) {
            add(x, all, partOf(x, s));
        }
    }

    private static long partOf(PaidForThinking x, int s) {
        try {
            return x.part(s, 2);
        } catch (NoSuchElementException e) {
            return -99;
        }
    }

    private static void ofPay(PaidForThinking x, int p, List<Long> all) {
        int[] got = {x.ends(p)};
        add(x, all, got[0]);
        add(x, all, x.truly(p));
        add(x, all, x.bends(p));
        add(x, all, x.safe(p));
        add(x, all, x.back(p));
        add(x, all, x.rest(p));
        add(x, all, x.gain(p));
        add(x, all, x.first(p));
        add(x, all, x.lot(p, 50, 100));
        for (int o = 0; o < 4; o++) {
            add(x, all, x.same(p, o));
            add(x, all, x.alike(p, o));
            add(x, all, x.paid(p, o));
            add(x, all, x.boast(p, o));
            add(x, all, x.thinks(p, o));
        }
    }

    private static void ofThought(PaidForThinking x, int p, int t, int n, List<Long> all) {
        int o = (t + 1) % n;
        add(x, all, x.best(p, t));
        add(x, all, x.could(p, t));
        add(x, all, x.loses(p, o, t));
        add(x, all, x.look(p, t, 37, 9));
        add(x, all, x.purse(t, 37, 9));
        add(x, all, x.minds(p, t, 3));
        add(x, all, x.bribe(p, t, 1, 1, 2));
        add(x, all, x.agree(p, t, o));
        add(x, all, x.peers(p, t, o));
        add(x, all, x.says(p, t));
        for (int k = 0; k < 3; k++) {
            add(x, all, x.rank(p, t, k * n / 2));
            add(x, all, x.decide(p, k, t, o));
            add(x, all, x.coin(p, k, t, o));
        }
    }

    private static void add(PaidForThinking x, List<Long> all, long answer) {
        all.add(answer);
        int numbers = x.count(7);
        for (int i = 0; i < numbers; i++) {
            all.add(x.row(i));
        }
    }

    public static void main(String[] args) {
        for (int[] table : TABLES) {
            for (String[] pays : PAYS) {
                List<Long> due = answers(() -> begun(new PaidForThinking(), table, pays));
                List<Long> got = answers(() -> begun(used(), table, pays));
                String what = "table " + Arrays.toString(table) + " of " + pays[0];
                Due.is(what + ": so many numbers", got.size(), due.size());
                for (int i = 0; i < Math.min(got.size(), due.size()); i++) {
                    Due.is(what + ": number " + i, got.get(i), due.get(i));
                }
            }
        }
        Due.end("UsedTest");
    }
}
