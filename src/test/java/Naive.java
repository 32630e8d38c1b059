import java.math.BigInteger;
import java.util.ArrayList;
import java.util.Arrays;
import java.util.List;
import java.util.NoSuchElementException;

/**
 * The document once more, as its words stand and by other means than the class: SAYINGS in lists,
 * texts read by descent, everything tried out one by one. OracleTest holds both against each other.
 */
final class Naive {
    /** TURN, PEOPLE, THE BOOK, WORDS. */
    static final class Kept {
        int[] turn = new int[13];
        List<Integer> people = new ArrayList<>();
        List<int[]> book = new ArrayList<>();
        int[][] words = new int[6][];

        Kept copy() {
            Kept k = new Kept();
            k.turn = turn.clone();
            k.people = new ArrayList<>(people);
            k.book = new ArrayList<>(book);
            k.words = words.clone();
            return k;
        }
    }

    static final class Wrong extends RuntimeException {
        final int at;

        Wrong(int at) {
            this.at = at;
        }
    }

    int events;
    int steps;
    List<int[]> all = new ArrayList<>();
    Kept now = new Kept();
    Kept[] kept = new Kept[3];
    String text = "";
    Object[] pays = new Object[4];
    long[] row = {};

    Naive() {
        for (int i = 0; i < 13; i++) {
            now.turn[i] = i * i;
        }
        lay(2, 4);
    }

    void lay(int e, int s) {
        events = e;
        steps = s;
        all.clear();
        List<int[]> rows = new ArrayList<>();
        rows.add(new int[0]);
        for (int i = 0; i < e; i++) {
            List<int[]> longer = new ArrayList<>();
            for (int[] r : rows) {
                for (int p = 0; p <= s; p++) {
                    int[] l = Arrays.copyOf(r, i + 1);
                    l[i] = p;
                    longer.add(l);
                }
            }
            rows = longer;
        }
        for (int[] r : rows) {
            if (Arrays.stream(r).sum() == s) {
                all.add(r);
            }
        }
    }

    // ---- the texts

    /** A reader by descent. With a SAYING it reckons too. */
    final class Descent {
        final String s;
        final int[] q;
        final int event;
        int p = 0;

        Descent(String s, int[] q, int event) {
            this.s = s;
            this.q = q;
            this.event = event;
        }

        char at() {
            if (p >= 60 && s.length() > 60) {
                throw new Wrong(60);
            }
            return p < s.length() ? s.charAt(p) : '\0';
        }

        boolean isEnd() {
            at();
            return p >= s.length();
        }

        int whole() {
            int v = compare(0);
            if (!isEnd()) {
                throw new Wrong(p);
            }
            return v;
        }

        int compare(int depth) {
            int a = sum(depth);
            if (!isEnd() && "<>=".indexOf(at()) >= 0) {
                char c = s.charAt(p++);
                int b = sum(depth);
                a = (c == '<' ? a < b : c == '>' ? a > b : a == b) ? 1 : 0;
            }
            return a;
        }

        int sum(int depth) {
            int a = product(depth);
            while (!isEnd() && "+-".indexOf(at()) >= 0) {
                char c = s.charAt(p++);
                int b = product(depth);
                a = c == '+' ? a + b : a - b;
            }
            return a;
        }

        int product(int depth) {
            int a = thing(depth);
            while (!isEnd() && "*/".indexOf(at()) >= 0) {
                char c = s.charAt(p++);
                int b = thing(depth);
                a = c == '*' ? a * b : b == 0 ? 0 : (int) ((long) a / b);
            }
            return a;
        }

        int thing(int depth) {
            if (isEnd()) {
                throw new Wrong(p);
            }
            char c = at();
            if (c == '-') {
                p++;
                return -thing(depth);
            }
            if (c == '(' && depth < 5) {
                p++;
                int v = compare(depth + 1);
                if (isEnd() || at() != ')') {
                    throw new Wrong(p);
                }
                p++;
                return v;
            }
            if (c >= '0' && c <= '9') {
                int v = 0;
                for (int i = 0; i < 4 && !isEnd() && at() >= '0' && at() <= '9'; i++) {
                    v = v * 10 + at() - '0';
                    p++;
                }
                return v;
            }
            if ("qsmxtuend".indexOf(c) < 0) {
                throw new Wrong(p);
            }
            p++;
            return q == null ? 1 : letter(c);
        }

        int letter(char c) {
            int m = Arrays.stream(q).max().getAsInt();
            switch (c) {
                case 'q': return q[event];
                case 's': return Arrays.stream(q).map(v -> v * v).sum();
                case 'm': return m;
                case 'x': return q[event] == m ? 1 : 0;
                case 't': return now.turn[q[event]];
                case 'u': return Arrays.stream(q).map(v -> now.turn[v]).sum();
                case 'e': return event;
                case 'n': return events;
                default: return steps;
            }
        }
    }

    boolean isPay(int i) {
        return i >= 0 && i < 4 && pays[i] != null;
    }

    int[][] values(int i) {
        if (pays[i] instanceof int[][]) {
            return (int[][]) pays[i];
        }
        int[][] v = new int[all.size()][events];
        for (int s = 0; s < v.length; s++) {
            for (int e = 0; e < events; e++) {
                v[s][e] = new Descent((String) pays[i], all.get(s), e).whole();
            }
        }
        return v;
    }

    // ---- help

    boolean isS(int s) {
        return s >= 0 && s < all.size();
    }

    boolean isE(int e) {
        return e >= 0 && e < events;
    }

    boolean isP(int who) {
        return who >= 0 && who < now.people.size();
    }

    long worth(int[][] v, int s, int t) {
        long sum = 0;
        for (int e = 0; e < events; e++) {
            sum += (long) all.get(t)[e] * v[s][e];
        }
        return sum;
    }

    boolean isBest(int[][] v, int s, int t) {
        for (int o = 0; o < all.size(); o++) {
            if (worth(v, o, t) > worth(v, s, t)) {
                return false;
            }
        }
        return true;
    }

    List<Integer> bestOnes(int[][] v, int t) {
        List<Integer> l = new ArrayList<>();
        long top = max(v, t);
        for (int s = 0; s < all.size(); s++) {
            if (worth(v, s, t) == top) {
                l.add(s);
            }
        }
        return l;
    }

    long max(int[][] v, int t) {
        long m = worth(v, 0, t);
        for (int s = 1; s < all.size(); s++) {
            m = Math.max(m, worth(v, s, t));
        }
        return m;
    }

    long[] fraction(long a, long b) {
        BigInteger g = BigInteger.valueOf(a).gcd(BigInteger.valueOf(b));
        return new long[] {a / g.longValue(), b / g.longValue()};
    }

    // ---- the face

    int table(int e, int s) {
        if (e < 2 || e > 4 || s < 1 || s > 12) {
            return -1;
        }
        lay(e, s);
        int[] turn = now.turn;
        now = new Kept();
        now.turn = turn;
        kept = new Kept[3];
        for (int i = 0; i < 4; i++) {
            if (pays[i] instanceof int[][]) {
                pays[i] = null;
            }
        }
        return all.size();
    }

    int saying(int a, int b, int c, int d) {
        int[] r = {a, b, c, d};
        for (int i = 0; i < all.size(); i++) {
            if (Arrays.equals(Arrays.copyOf(all.get(i), 4), r)) {
                return i;
            }
        }
        return -1;
    }

    int part(int s, int e) {
        if (!isS(s) || !isE(e)) {
            throw new NoSuchElementException();
        }
        return all.get(s)[e];
    }

    int turn(int at, int v) {
        if (at < 0 || at > 12 || v < -9999 || v > 9999) {
            return -1;
        }
        int was = now.turn[at];
        now.turn[at] = v;
        return was;
    }

    int sheet(int kind, int n, int f, int step) {
        if (kind < 0 || kind > 3 || n > 13) {
            return -1;
        }
        if (kind < 3 && n < 0) {
            return -2;
        }
        for (int i = 0; i < 13; i++) {
            now.turn[i] = i * i;
        }
        if (kind == 3) {
            return -3;
        }
        int v = f;
        for (int i = 0; i < n; i++) {
            int r = kind == 0 ? (byte) v : kind == 1 ? (short) v : v;
            now.turn[i] = r > 9999 ? 9999 : r < -9999 ? -9999 : r;
            v += step;
        }
        return Arrays.stream(now.turn).sum();
    }

    int sign(int v) {
        if (text.length() > 76) {
            return -1;
        }
        text += "" + (char) (v >>> 24) + (char) (v >> 16 & 255) + (char) (v >> 8 & 255) + (char) (v & 255);
        return text.length();
    }

    boolean end(int n) {
        if (n < 0 || n > text.length()) {
            return false;
        }
        text = text.substring(0, n);
        return true;
    }

    int pay(int i) {
        String s = text;
        text = "";
        if (i < 0 || i > 3) {
            return -100;
        }
        if (s.isEmpty()) {
            pays[i] = null;
            return 0;
        }
        try {
            new Descent(s, null, 0).whole();
        } catch (Wrong w) {
            return -1 - w.at;
        }
        pays[i] = s;
        return 0;
    }

    int gets(int p, int s, int e) {
        if (!isPay(p) || !isS(s) || !isE(e)) {
            throw new NoSuchElementException();
        }
        return values(p)[s][e];
    }

    int ends(int p) {
        if (!isPay(p)) {
            return -1;
        }
        int[][] v = values(p);
        long[] r = {v[0][0], v[0][0], 0, 0};
        for (int s = 0; s < v.length; s++) {
            for (int e = 0; e < events; e++) {
                if (v[s][e] < r[0]) {
                    r[0] = v[s][e];
                    r[2] = s;
                    r[3] = e;
                }
                r[1] = Math.max(r[1], v[s][e]);
            }
        }
        row = r;
        return 0;
    }

    int mean(int p, int s, int t) {
        if (!isPay(p) || !isS(s) || !isS(t)) {
            return -1;
        }
        row = fraction(worth(values(p), s, t), steps);
        return 0;
    }

    int best(int p, int t) {
        if (!isPay(p) || !isS(t)) {
            return -1;
        }
        List<Integer> l = bestOnes(values(p), t);
        row = l.stream().limit(10).mapToLong(i -> i).toArray();
        return l.size();
    }

    int loses(int p, int s, int t) {
        if (!isPay(p) || !isS(s) || !isS(t)) {
            return -1;
        }
        int[][] v = values(p);
        row = fraction(max(v, t) - worth(v, s, t), steps);
        return 0;
    }

    int truly(int p) {
        if (!isPay(p)) {
            return -1;
        }
        int[][] v = values(p);
        for (int t = 0; t < all.size(); t++) {
            List<Integer> l = bestOnes(v, t);
            if (!l.contains(t)) {
                row = new long[] {t, l.get(0)};
                return 0;
            }
        }
        for (int t = 0; t < all.size(); t++) {
            List<Integer> l = bestOnes(v, t);
            if (l.size() > 1) {
                row = new long[] {t, l.get(0) == t ? l.get(1) : l.get(0)};
                return 1;
            }
        }
        row = new long[0];
        return 2;
    }

    int bends(int p) {
        if (!isPay(p)) {
            return -1;
        }
        int[][] v = values(p);
        int many = 0;
        long[] r = {-1, 0};
        for (int t = 0; t < all.size(); t++) {
            long l = max(v, t) - worth(v, t, t);
            many += l > 0 ? 1 : 0;
            if (l > r[1]) {
                r = new long[] {t, l};
            }
        }
        row = r;
        return many;
    }

    int tellThoughts(List<Integer> l) {
        row = l.isEmpty() ? new long[0] : new long[] {l.get(0), l.get(l.size() - 1)};
        return l.size();
    }

    int could(int p, int s) {
        if (!isPay(p) || !isS(s)) {
            return -1;
        }
        int[][] v = values(p);
        List<Integer> l = new ArrayList<>();
        for (int t = 0; t < all.size(); t++) {
            if (isBest(v, s, t)) {
                l.add(t);
            }
        }
        return tellThoughts(l);
    }

    boolean apart(int[][] v, long a, int[][] w) {
        for (int e = 0; e < events; e++) {
            for (int s = 0; s < v.length; s++) {
                for (int o = 0; o < s; o++) {
                    if (a * v[s][e] - w[s][e] != a * v[o][e] - w[o][e]) {
                        return false;
                    }
                }
            }
        }
        return true;
    }

    int same(int one, int other) {
        if (!isPay(one) || !isPay(other)) {
            return -1;
        }
        return apart(values(one), 1, values(other)) ? 1 : 0;
    }

    int alike(int one, int other) {
        if (!isPay(one) || !isPay(other)) {
            return -1;
        }
        int[][] v = values(one);
        int[][] w = values(other);
        row = new long[0];
        for (int a = 20; a >= 1; a--) {
            if (apart(v, a, w)) {
                row = new long[] {a};
            }
        }
        return row.length;
    }

    boolean bent(long[] g) {
        for (int i = 1; i + 1 < g.length; i++) {
            if (g[i + 1] - g[i] < g[i] - g[i - 1]) {
                return false;
            }
        }
        return true;
    }

    int make(int i) {
        if (events != 2 || i < 0 || i > 3) {
            return -1;
        }
        int[] g = now.turn;
        int[][] v = new int[all.size()][2];
        for (int a = 0; a < v.length; a++) {
            int s = all.get(a)[1];
            int d = s == steps ? g[s] - g[s - 1] : g[s + 1] - g[s];
            v[a][1] = g[s] + (steps - s) * d;
            v[a][0] = g[s] - s * d;
        }
        pays[i] = v;
        return bent(Arrays.stream(g).asLongStream().limit(steps + 1).toArray()) ? 1 : 0;
    }

    long[] tableOf(int p) {
        int[][] v = values(p);
        long[] r = new long[steps + 1];
        for (int k = 0; k <= steps; k++) {
            r[k] = max(v, saying(steps - k, k, 0, 0));
        }
        return r;
    }

    int back(int p) {
        if (events != 2 || !isPay(p)) {
            return -1;
        }
        row = tableOf(p);
        return bent(row) ? 1 : 0;
    }

    boolean take(int p) {
        if (events != 2 || !isPay(p)) {
            return false;
        }
        long[] r = tableOf(p);
        for (long v : r) {
            if (Math.abs(v / steps) > 9999) {
                return false;
            }
        }
        for (int k = 0; k <= steps; k++) {
            now.turn[k] = (int) (r[k] / steps);
        }
        return true;
    }

    boolean mix(int i, int one, int other, int a, int b) {
        if (i < 0 || i > 3 || !isPay(one) || !isPay(other) || Math.abs((long) a) > 9 || Math.abs((long) b) > 9) {
            return false;
        }
        int[][] v = values(one);
        int[][] w = values(other);
        int[][] z = new int[v.length][events];
        for (int s = 0; s < v.length; s++) {
            for (int e = 0; e < events; e++) {
                z[s][e] = a * v[s][e] + b * w[s][e];
            }
        }
        pays[i] = z;
        return true;
    }

    int lift(int i, int p) {
        if (i < 0 || i > 3 || !isPay(p)) {
            return -1;
        }
        int[][] v = values(p);
        int least = Arrays.stream(v).flatMapToInt(Arrays::stream).min().getAsInt();
        pays[i] = Arrays.stream(v).map(r -> Arrays.stream(r).map(z -> z - least).toArray()).toArray(int[][]::new);
        return -least;
    }

    int rank(int p, int t, int k) {
        if (!isPay(p) || !isS(t) || k < 0) {
            return -1;
        }
        if (k >= all.size()) {
            return -2;
        }
        int[][] v = values(p);
        List<Integer> l = new ArrayList<>();
        for (int s = 0; s < all.size(); s++) {
            l.add(s);
        }
        l.sort((a, b) -> Long.compare(worth(v, b, t), worth(v, a, t)));
        row = new long[] {worth(v, l.get(k), t)};
        return l.get(k);
    }

    boolean isLook(int t, int lights, int cost) {
        return isS(t) && cost >= 0 && cost <= 9999 && lights >= 0 && lights < Math.pow(10, events);
    }

    long maxBy(int[][] v, int[] weights) {
        long most = Long.MIN_VALUE;
        for (int[] r : v) {
            long sum = 0;
            for (int e = 0; e < events; e++) {
                sum += (long) weights[e] * r[e];
            }
            most = Math.max(most, sum);
        }
        return most;
    }

    long[] looked(int p, int t, int lights, int cost) {
        int[][] v = values(p);
        String digits = String.format("%0" + events + "d", lights);
        int[] with = new int[events];
        int[] without = new int[events];
        for (int e = 0; e < events; e++) {
            with[e] = all.get(t)[e] * (digits.charAt(e) - '0');
            without[e] = all.get(t)[e] * (10 - (digits.charAt(e) - '0'));
        }
        long more = maxBy(v, with) + maxBy(v, without) - 10 * max(v, t);
        for (long times = 1; times <= 9999; times++) {
            if (times * more >= (long) cost * steps * 10) {
                return new long[] {more, times};
            }
        }
        return new long[] {more, -1};
    }

    int look(int p, int t, int lights, int cost) {
        if (!isPay(p) || !isLook(t, lights, cost)) {
            return -1;
        }
        row = looked(p, t, lights, cost);
        return 0;
    }

    int purse(int t, int lights, int cost) {
        if (!isLook(t, lights, cost)) {
            return -1;
        }
        int best = -2;
        long few = 0;
        for (int p = 3; p >= 0; p--) {
            if (isPay(p)) {
                long times = looked(p, t, lights, cost)[1];
                if (times != -1 && (best == -2 || times <= few)) {
                    best = p;
                    few = times;
                }
            }
        }
        if (best != -2) {
            row = new long[] {few};
        }
        return best;
    }

    int firstOf(long[] w) {
        long most = Arrays.stream(w).max().getAsLong();
        for (int i = 0; i < w.length; i++) {
            if (w[i] == most) {
                return i;
            }
        }
        return -1;
    }

    int minds(int p, int t, int w) {
        if (!isPay(p) || !isS(t) || w < 1 || w > 9) {
            return -1;
        }
        int[][] v = values(p);
        long[] m = new long[v.length];
        for (int s = 0; s < v.length; s++) {
            for (int e = 0; e < events; e++) {
                long got = v[s][e];
                m[s] += all.get(t)[e] * (got < 0 ? w * got : got);
            }
        }
        int best = firstOf(m);
        long[] f = fraction(worth(v, best, t), steps);
        long many = Arrays.stream(m).filter(z -> z == m[best]).count();
        row = new long[] {many, m[t] == m[best] ? 1 : 0, f[0], f[1]};
        return best;
    }

    int lot(int p, int add, int top) {
        if (!isPay(p) || add < -9999 || add > 9999 || top < 1 || top > 9999) {
            return -1;
        }
        long least = Long.MAX_VALUE;
        long most = Long.MIN_VALUE;
        boolean fits = true;
        for (int[] r : values(p)) {
            for (long z : r) {
                least = Math.min(least, z);
                most = Math.max(most, z);
                fits &= z + add >= 0 && z + add <= top;
            }
        }
        row = new long[] {-least, most - least};
        return fits ? 1 : 0;
    }

    long bribed(int[][] v, int s, int t, int event, int least, long gift, long times) {
        return times * worth(v, s, t) + (all.get(s)[event] >= least ? gift * steps : 0);
    }

    int bribe(int p, int t, int event, int least, int gift) {
        if (!isPay(p) || !isS(t) || !isE(event) || least < 0 || least > 12 || gift < 0 || gift > 9999) {
            return -1;
        }
        int[][] v = values(p);
        long[] w = new long[v.length];
        for (int s = 0; s < v.length; s++) {
            w[s] = bribed(v, s, t, event, least, gift, 1);
        }
        long times = -1;
        for (int n = 1; n <= 9999 && times == -1; n++) {
            boolean stands = true;
            for (int s = 0; s < v.length && stands; s++) {
                stands = bribed(v, s, t, event, least, gift, n) <= bribed(v, t, t, event, least, gift, n);
            }
            times = stands ? n : -1;
        }
        row = new long[] {times};
        return firstOf(w);
    }

    boolean stands(int[][] v, int gift) {
        for (int t = 0; t < v.length; t++) {
            for (int s = 0; s < v.length; s++) {
                for (int e = 0; e < events; e++) {
                    for (int least = 0; least <= 12; least++) {
                        if (bribed(v, s, t, e, least, gift, 1) > bribed(v, t, t, e, least, gift, 1)) {
                            return false;
                        }
                    }
                }
            }
        }
        return true;
    }

    int safe(int p) {
        if (!isPay(p)) {
            return -1;
        }
        int[][] v = values(p);
        if (!stands(v, 0)) {
            return -2;
        }
        int low = 0;
        int high = 9999;
        while (low < high) {
            int mid = (low + high + 1) / 2;
            if (stands(v, mid)) {
                low = mid;
            } else {
                high = mid - 1;
            }
        }
        return low;
    }

    int person(int t) {
        if (!isS(t) || now.people.size() == 6) {
            return -1;
        }
        now.people.add(t);
        return now.people.size() - 1;
    }

    int go() {
        int n = now.people.size();
        now.people.clear();
        now.book.clear();
        return n;
    }

    int prizeIf(int[][] v, int[] said, int who) {
        int sum = 0;
        for (int e = 0; e < events; e++) {
            final int event = e;
            int top = Arrays.stream(said).map(s -> v[s][event]).max().getAsInt();
            long many = Arrays.stream(said).filter(s -> v[s][event] == top).count();
            if (v[said[who]][e] == top) {
                sum += all.get(now.people.get(who))[e] * (60 / many);
            }
        }
        return sum;
    }

    int[] truth() {
        return now.people.stream().mapToInt(i -> i).toArray();
    }

    int prize(int p, int who, int s) {
        if (!isPay(p) || !isP(who) || !isS(s)) {
            return -1;
        }
        int[] said = truth();
        said[who] = s;
        return prizeIf(values(p), said, who);
    }

    int answer(int[][] v, int[] said, int who) {
        long[] w = new long[v.length];
        for (int s = 0; s < v.length; s++) {
            int[] other = said.clone();
            other[who] = s;
            w[s] = prizeIf(v, other, who);
        }
        int first = firstOf(w);
        return w[said[who]] == w[first] ? said[who] : first;
    }

    int boast(int p, int who) {
        if (!isPay(p) || !isP(who)) {
            return -1;
        }
        int s = answer(values(p), truth(), who);
        int t = now.people.get(who);
        int off = 0;
        for (int e = 0; e < events; e++) {
            off += Math.abs(all.get(s)[e] - all.get(t)[e]);
        }
        row = new long[] {prize(p, who, s), prize(p, who, t), off / 2};
        return s;
    }

    int rest(int p) {
        if (!isPay(p) || now.people.isEmpty()) {
            return -1;
        }
        int[][] v = values(p);
        int[] said = truth();
        int changed = 0;
        while (changed < 20) {
            int[] before = said.clone();
            for (int i = 0; i < said.length; i++) {
                said[i] = answer(v, said, i);
            }
            if (Arrays.equals(before, said)) {
                row = Arrays.stream(said).asLongStream().toArray();
                return changed;
            }
            changed++;
        }
        return -2;
    }

    long[] agreed(int[][] v, int one, int other) {
        long[] least = new long[v.length];
        for (int s = 0; s < v.length; s++) {
            least[s] = Long.MAX_VALUE;
            for (int e = 0; e < events; e++) {
                least[s] = Math.min(least[s], 2L * v[s][e] - ((long) v[one][e] + v[other][e]));
            }
        }
        int first = firstOf(least);
        return new long[] {first, least[first]};
    }

    int agree(int p, int one, int other) {
        if (!isPay(p) || !isS(one) || !isS(other)) {
            return -1;
        }
        long[] a = agreed(values(p), one, other);
        row = new long[] {a[1]};
        return (int) a[0];
    }

    int gain(int p) {
        if (!isPay(p)) {
            return -1;
        }
        if (all.size() > 91) {
            return -3;
        }
        int[][] v = values(p);
        int many = 0;
        row = new long[0];
        for (int one = 0; one < v.length; one++) {
            for (int other = one + 1; other < v.length; other++) {
                if (agreed(v, one, other)[1] > 0) {
                    row = many == 0 ? new long[] {one, other} : row;
                    many++;
                }
            }
        }
        return many;
    }

    int mode(int s) {
        int m = Arrays.stream(all.get(s)).max().getAsInt();
        int e = 0;
        while (all.get(s)[e] != m) {
            e++;
        }
        return e;
    }

    boolean rests(int[][] v, int a, int b) {
        for (int s = 0; s < v.length; s++) {
            if (v[s][mode(b)] > v[a][mode(b)] || v[s][mode(a)] > v[b][mode(a)]) {
                return false;
            }
        }
        return true;
    }

    int peers(int p, int one, int other) {
        if (!isPay(p) || !isS(one) || !isS(other)) {
            return -1;
        }
        if (all.size() > 91) {
            return -3;
        }
        int[][] v = values(p);
        int many = 0;
        long[] r = {-1, -1, 0, rests(v, one, other) ? 1 : 0};
        for (int a = 0; a < v.length; a++) {
            for (int b = 0; b < v.length; b++) {
                if (rests(v, a, b)) {
                    if (many == 0) {
                        r[0] = a;
                        r[1] = b;
                    }
                    many++;
                    r[2] += a == b ? 1 : 0;
                }
            }
        }
        row = r;
        return many;
    }

    int decide(int p, int least, int then, int otherwise) {
        if (!isPay(p) || least < 0 || least > 12 || !isS(then) || !isS(otherwise)) {
            return -1;
        }
        int[][] v = values(p);
        long[] w = new long[v.length];
        List<Long> just = new ArrayList<>();
        List<Integer> which = new ArrayList<>();
        for (int s = 0; s < v.length; s++) {
            int t = all.get(s)[0] >= least ? then : otherwise;
            w[s] = worth(v, s, t);
            if (s == t) {
                just.add(w[s]);
                which.add(s);
            }
        }
        int best = firstOf(w);
        long most = just.stream().max(Long::compare).orElse(-1000000000L);
        row = new long[] {which.contains(best) ? 1 : 0, w[best], most};
        return best;
    }

    long tossed(int[][] v, int least, int then, int otherwise, int k, int a, int b) {
        long first = worth(v, a, then);
        long second = worth(v, b, otherwise);
        return (40 - 2 * k) * (all.get(a)[0] >= least ? first : second) + k * (first + second);
    }

    int coin(int p, int least, int then, int otherwise) {
        if (!isPay(p) || least < 0 || least > 12 || !isS(then) || !isS(otherwise)) {
            return -1;
        }
        int[][] v = values(p);
        long any = Long.MIN_VALUE;
        for (int k = 0; k <= 20; k++) {
            long truth = tossed(v, least, then, otherwise, k, then, otherwise);
            boolean stands = true;
            for (int a = 0; a < v.length; a++) {
                for (int b = 0; b < v.length; b++) {
                    long z = tossed(v, least, then, otherwise, k, a, b);
                    any = k == 0 ? Math.max(any, z) : any;
                    stands &= z <= truth;
                }
            }
            if (stands) {
                row = new long[] {truth, any};
                return k;
            }
        }
        return -2;
    }

    int says(int p, int t) {
        if (!isPay(p) || !isS(t)) {
            return -1;
        }
        int[][] v = values(p);
        long[] w = new long[events];
        for (int r = 0; r < events; r++) {
            int[] sole = new int[4];
            sole[r] = steps;
            w[r] = worth(v, saying(sole[0], sole[1], sole[2], sole[3]), t);
        }
        int middle = 0;
        int sum = all.get(t)[0];
        while (2 * sum < steps) {
            middle++;
            sum += all.get(t)[middle];
        }
        row = new long[] {middle, mode(t)};
        return firstOf(w);
    }

    int middle(int t, int a, int b) {
        if (!isS(t) || a < 0 || a > 9 || b < 0 || b > 9) {
            return -1;
        }
        long[] w = new long[events];
        for (int r = 0; r < events; r++) {
            for (int e = 0; e < events; e++) {
                w[r] -= all.get(t)[e] * Math.abs(r - e) * (r < e ? a : b);
            }
        }
        int first = firstOf(w);
        row = new long[] {-w[first], Arrays.stream(w).filter(z -> z == w[first]).count()};
        return first;
    }

    boolean word(int i, int from, int to) {
        if (i < 0 || i > 5 || from < 0 || to < from || to > steps) {
            return false;
        }
        now.words[i] = new int[] {from, to};
        return true;
    }

    boolean isFor(int i, int s) {
        int q = all.get(s)[0];
        return now.words[i] != null && now.words[i][0] <= q && q <= now.words[i][1];
    }

    int words(int s) {
        if (!isS(s)) {
            return -1;
        }
        int bits = 0;
        for (int i = 0; i < 6; i++) {
            bits += isFor(i, s) ? 1 << i : 0;
        }
        return bits;
    }

    int evening(int who, int s, int e) {
        if (!isP(who) || !isS(s) || !isE(e) || now.book.size() == 40) {
            return -1;
        }
        now.book.add(new int[] {who, s, e});
        return now.book.size();
    }

    int forget() {
        if (now.book.isEmpty()) {
            return -1;
        }
        now.book.remove(now.book.size() - 1);
        return now.book.size();
    }

    List<int[]> bookOf(int who) {
        List<int[]> l = new ArrayList<>(now.book);
        l.removeIf(b -> b[0] != who);
        return l;
    }

    int paid(int p, int who) {
        if (!isPay(p) || !isP(who)) {
            return -1;
        }
        int[][] v = values(p);
        long[] w = new long[v.length];
        long got = 0;
        for (int[] b : bookOf(who)) {
            got += v[b[1]][b[2]];
            for (int s = 0; s < v.length; s++) {
                w[s] += v[s][b[2]];
            }
        }
        int first = firstOf(w);
        row = new long[] {got, w[first], first};
        return bookOf(who).size();
    }

    int first(int p) {
        if (!isPay(p)) {
            return -1;
        }
        int[][] v = values(p);
        int best = -2;
        long[] most = null;
        for (int who = 0; who < now.people.size(); who++) {
            List<int[]> l = bookOf(who);
            if (!l.isEmpty()) {
                long got = 0;
                for (int[] b : l) {
                    got += v[b[1]][b[2]];
                }
                long[] f = fraction(got, l.size());
                if (best == -2 || f[0] * most[1] > most[0] * f[1]) {
                    best = who;
                    most = f;
                }
            }
        }
        row = best == -2 ? row : most;
        return best;
    }

    int right(int who, int event, int k) {
        if (!isP(who) || !isE(event) || k < 0 || k > 12) {
            return -1;
        }
        int[] n = new int[13];
        int[] came = new int[13];
        for (int[] b : bookOf(who)) {
            int q = all.get(b[1])[event];
            n[q]++;
            came[q] += b[2] == event ? 1 : 0;
        }
        long sum = 0;
        for (int i = 0; i < 13; i++) {
            sum += Math.abs(n[i] * i - steps * came[i]);
        }
        row = new long[] {came[k], sum};
        return n[k];
    }

    int meant(int i) {
        if (i < 0 || i > 5 || now.words[i] == null) {
            return -1;
        }
        int n = 0;
        int came = 0;
        for (int[] b : now.book) {
            if (isFor(i, b[1])) {
                n++;
                came += b[2] == 0 ? 1 : 0;
            }
        }
        boolean lies = n > 0 && now.words[i][0] * n <= came * steps && came * steps <= now.words[i][1] * n;
        row = new long[] {came, lies ? 1 : 0};
        return n;
    }

    int thinks(int p, int who) {
        if (!isPay(p) || !isP(who)) {
            return -1;
        }
        int[][] v = values(p);
        List<Integer> l = new ArrayList<>();
        for (int t = 0; t < all.size(); t++) {
            boolean may = true;
            for (int[] b : bookOf(who)) {
                may = may && isBest(v, b[1], t);
            }
            if (may) {
                l.add(t);
            }
        }
        return tellThoughts(l);
    }

    boolean keep(int i) {
        if (i < 0 || i > 2) {
            return false;
        }
        kept[i] = now.copy();
        return true;
    }

    boolean again(int i) {
        if (i < 0 || i > 2 || kept[i] == null) {
            return false;
        }
        now = kept[i].copy();
        return true;
    }

    int count(int what) {
        int bits = 0;
        for (int i = 0; i < 4; i++) {
            bits += pays[i] != null ? 1 << i : 0;
        }
        int told = 0;
        for (int i = 0; i < 6; i++) {
            told += now.words[i] != null ? 1 << i : 0;
        }
        int[] all9 = {events, steps, all.size(), bits, now.people.size(), now.book.size(), told, row.length,
            text.length()};
        return what < 0 || what > 8 ? -1 : all9[what];
    }

    long row(int i) {
        if (i < 0 || i >= row.length) {
            throw new NoSuchElementException();
        }
        return row[i];
    }
}
