import java.math.BigInteger;
import java.util.ArrayList;
import java.util.Arrays;
import java.util.List;
import java.util.NoSuchElementException;

/**
 * The document once more, in the slowest and plainest form: fractions of any size, equations solved one by one, all
 * ways to act tried. Written from the document, not from the class; the random runs compare the two.
 */
public final class Oracle {
    /** A fraction of any size. */
    static final class Q implements Comparable<Q> {
        static final Q ZERO = of(0);
        static final Q ONE = of(1);
        final BigInteger n;
        final BigInteger d;

        Q(BigInteger n, BigInteger d) {
            BigInteger g = n.gcd(d);
            if (d.signum() < 0) {
                g = g.negate();
            }
            this.n = n.divide(g);
            this.d = d.divide(g);
        }

        static Q of(long n) {
            return of(n, 1);
        }

        static Q of(long n, long d) {
            return new Q(BigInteger.valueOf(n), BigInteger.valueOf(d));
        }

        Q plus(Q o) {
            return new Q(n.multiply(o.d).add(o.n.multiply(d)), d.multiply(o.d));
        }

        Q minus(Q o) {
            return plus(new Q(o.n.negate(), o.d));
        }

        Q times(Q o) {
            return new Q(n.multiply(o.n), d.multiply(o.d));
        }

        Q over(Q o) {
            return new Q(n.multiply(o.d), d.multiply(o.n));
        }

        public int compareTo(Q o) {
            return n.multiply(o.d).compareTo(o.n.multiply(d));
        }

        long told(boolean below) {
            return (below ? d : n).longValueExact();
        }
    }

    /** Solves equations m x = r; null if there is not just one solution. */
    static Q[] solve(Q[][] m, Q[] r) {
        int size = r.length;
        Q[][] a = new Q[size][];
        for (int i = 0; i < size; i++) {
            a[i] = Arrays.copyOf(m[i], size + 1);
            a[i][size] = r[i];
        }
        for (int c = 0; c < size; c++) {
            int pivot = c;
            while (pivot < size && a[pivot][c].n.signum() == 0) {
                pivot++;
            }
            if (pivot == size) {
                return null;
            }
            Q[] row = a[pivot];
            a[pivot] = a[c];
            a[c] = row;
            for (int i = 0; i < size; i++) {
                if (i != c) {
                    Q factor = a[i][c].over(a[c][c]);
                    for (int k = c; k <= size; k++) {
                        a[i][k] = a[i][k].minus(factor.times(a[c][k]));
                    }
                }
            }
        }
        Q[] x = new Q[size];
        for (int i = 0; i < size; i++) {
            x[i] = a[i][size].over(a[i][i]);
        }
        return x;
    }

    static final class Mood {
        int act;
        int[] next = new int[3];
    }

    static final class State {
        int acts = 2;
        int[][][] brings = new int[3][3][2];
        int p = 1;
        int q = 2;
        int e = 0;
        int f = 1;
        int rounds = 10;
        List<Mood[]> ways = new ArrayList<>();
        int[] row = new int[0];
        int[] beings = new int[8];
        List<int[]> village = new ArrayList<>();

        State copy() {
            State s = new State();
            s.acts = acts;
            for (int i = 0; i < 3; i++) {
                for (int k = 0; k < 3; k++) {
                    s.brings[i][k] = brings[i][k].clone();
                }
            }
            s.p = p;
            s.q = q;
            s.e = e;
            s.f = f;
            s.rounds = rounds;
            s.ways = new ArrayList<>(ways);
            s.row = row.clone();
            s.beings = beings.clone();
            s.village = new ArrayList<>(village);
            return s;
        }
    }

    private State s = new State();
    private State image = null;
    private List<Integer> tape = new ArrayList<>();
    private int fault = -1;

    public int feed(int a, int b, int c, int d, int e) {
        if (tape.size() + 20 > 400) {
            return -1;
        }
        for (int x : new int[] {a, b, c, d, e}) {
            for (byte y : java.nio.ByteBuffer.allocate(4).putInt(x).array()) {
                tape.add(y & 0xff);
            }
        }
        return tape.size();
    }

    public boolean end(int n) {
        if (n < 0 || tape.size() < n) {
            return false;
        }
        tape = new ArrayList<>(tape.subList(0, n));
        return true;
    }

    private static void arg(boolean good) {
        if (!good) {
            throw new IllegalArgumentException();
        }
    }

    private static void index(boolean good) {
        if (!good) {
            throw new IndexOutOfBoundsException();
        }
    }

    private static void state(boolean good) {
        if (!good) {
            throw new IllegalStateException();
        }
    }

    private static void such(boolean good) {
        if (!good) {
            throw new NoSuchElementException();
        }
    }

    private void person(int p) {
        index(p == 0 || p == 1);
    }

    private void act(int a) {
        index(a >= 0 && a < s.acts);
    }

    private void isWay(int w) {
        index(w >= 0 && w < s.ways.size());
    }

    private void isMood(int w, int m) {
        index(m >= 0 && m < s.ways.get(w).length);
    }

    private boolean barred(int w) {
        return barred(s.ways.get(w));
    }

    private boolean barred(Mood[] w) {
        return s.acts == 2 && Arrays.stream(w).anyMatch(m -> m.act == 2);
    }

    public void acts(int n) {
        arg(n == 2 || n == 3);
        s.acts = n;
    }

    public void bring(int a, int b, int first, int second) {
        act(a);
        act(b);
        arg(Math.abs((long) first) <= 99 && Math.abs((long) second) <= 99);
        s.brings[a][b] = new int[] {first, second};
    }

    public void tomorrow(int p, int q) {
        arg(0 < p && p < q && q <= 9);
        s.p = p;
        s.q = q;
    }

    // ---- texts: a list of things first, then what may stand where ----

    private static final class Thing {
        String text;
        int at;
    }

    private List<Thing> things() {
        List<Thing> all = new ArrayList<>();
        StringBuilder text = new StringBuilder();
        for (int b : tape) {
            text.append((char) b);
        }
        java.util.regex.Matcher m = java.util.regex.Pattern.compile("[a-z]+|[0-9]+|[^ ]", java.util.regex.Pattern.DOTALL)
                .matcher(text);
        while (m.find()) {
            Thing t = new Thing();
            t.text = m.group();
            t.at = m.start();
            all.add(t);
        }
        return all;
    }

    /** The first wrong byte, or -1; the moods that were read come into a list. */
    private int read(List<Mood> moods) {
        List<Thing> all = things();
        List<Thing> names = new ArrayList<>();
        String wanted = "does";
        int first = -1;
        int last = -1;
        for (Thing t : all) {
            if (wanted.equals("does")) {
                if (!t.text.equals("does") || moods.size() == 3) {
                    return t.at;
                }
                wanted = "ACT";
            } else if (wanted.equals("ACT")) {
                if (!t.text.matches("[012]")) {
                    return t.at;
                }
                Mood m = new Mood();
                m.act = Integer.parseInt(t.text);
                Arrays.fill(m.next, moods.size());
                moods.add(m);
                wanted = "MORE";
            } else if (wanted.equals("MORE")) {
                if (t.text.equals(",")) {
                    wanted = "SEEN";
                } else if (t.text.equals(";")) {
                    wanted = "does";
                } else {
                    return t.at;
                }
            } else if (wanted.equals("SEEN")) {
                if (!t.text.matches("[012]|any")) {
                    return t.at;
                }
                first = t.text.equals("any") ? 0 : Integer.parseInt(t.text);
                last = t.text.equals("any") ? 2 : first;
                wanted = "to";
            } else if (wanted.equals("to")) {
                if (!t.text.equals("to")) {
                    return t.at;
                }
                wanted = "NUMBER";
            } else {
                if (!t.text.matches("[012]")) {
                    return t.at;
                }
                names.add(t);
                for (int k = first; k <= last; k++) {
                    moods.get(moods.size() - 1).next[k] = Integer.parseInt(t.text);
                }
                wanted = "MORE";
            }
        }
        if (!wanted.equals("MORE")) {
            return tape.size();
        }
        for (Thing t : names) {
            if (Integer.parseInt(t.text) >= moods.size()) {
                return t.at;
            }
        }
        return -1;
    }

    public int way() {
        List<Mood> moods = new ArrayList<>();
        fault = read(moods);
        tape.clear();
        arg(fault == -1);
        if (s.ways.size() == 8) {
            throw new UnsupportedOperationException();
        }
        s.ways.add(moods.toArray(new Mood[0]));
        return s.ways.size() - 1;
    }

    public int fault() {
        return fault;
    }

    public int mood(int way, int mood, int what) {
        isWay(way);
        Mood[] w = s.ways.get(way);
        if (what >= 2 && what <= 5) {
            isMood(way, mood);
            return what == 2 ? w[mood].act : w[mood].next[what - 3];
        }
        such(what == 0 || what == 1);
        return what == 0 ? w.length : barred(way) ? 1 : 0;
    }

    // ---- worths ----

    private Q delta() {
        return Q.of(s.p, s.q);
    }

    /** Worths of all pairs of moods to a person, when each eye errs with a chance. */
    private Q[][] worths(Mood[] a, Mood[] b, int person, Q delta, Q err) {
        int size = a.length * b.length;
        Q[][] m = new Q[size][size];
        Q[] r = new Q[size];
        for (int i = 0; i < size; i++) {
            Arrays.fill(m[i], Q.ZERO);
            Mood x = a[i / b.length];
            Mood y = b[i % b.length];
            r[i] = Q.of(s.brings[x.act][y.act][person]);
            m[i][i] = Q.ONE;
            for (int wrong = 0; wrong < (err.n.signum() == 0 ? 1 : 4); wrong++) {
                boolean wrongA = wrong % 2 == 1;
                boolean wrongB = wrong / 2 == 1;
                Q chance = (wrongA ? err : Q.ONE.minus(err)).times(wrongB ? err : Q.ONE.minus(err));
                int to = x.next[wrongA ? 1 - y.act : y.act] * b.length + y.next[wrongB ? 1 - x.act : x.act];
                m[i][to] = m[i][to].minus(delta.times(chance));
            }
        }
        Q[] flat = solve(m, r);
        Q[][] v = new Q[a.length][b.length];
        for (int i = 0; i < size; i++) {
            v[i / b.length][i % b.length] = flat[i];
        }
        return v;
    }

    private void free(int a, int b) {
        state(!barred(a) && !barred(b));
    }

    private Mood[] w(int a) {
        return s.ways.get(a);
    }

    public long worth(int a, int moodA, int b, int moodB, int person, boolean below) {
        isWay(a);
        isMood(a, moodA);
        isWay(b);
        isMood(b, moodB);
        person(person);
        free(a, b);
        return worths(w(a), w(b), person, delta(), Q.ZERO)[moodA][moodB].told(below);
    }

    private int first(Mood[] a, Mood[] b, Q delta) {
        Q[][] v0 = worths(a, b, 0, delta, Q.ZERO);
        Q[][] v1 = worths(a, b, 1, delta, Q.ZERO);
        for (int i = 0; i < a.length; i++) {
            for (int k = 0; k < b.length; k++) {
                int x = a[i].act;
                int y = b[k].act;
                for (int z = 0; z < s.acts; z++) {
                    Q other = Q.of(s.brings[z][y][0]).plus(delta.times(v0[a[i].next[y]][b[k].next[z]]));
                    if (z != x && other.compareTo(v0[i][k]) > 0) {
                        return 6 * i + 2 * k;
                    }
                }
                for (int z = 0; z < s.acts; z++) {
                    Q other = Q.of(s.brings[x][z][1]).plus(delta.times(v1[a[i].next[z]][b[k].next[x]]));
                    if (z != y && other.compareTo(v1[i][k]) > 0) {
                        return 6 * i + 2 * k + 1;
                    }
                }
            }
        }
        return -1;
    }

    public boolean hold(int a, int b) {
        return first(a, b) == -1;
    }

    public int first(int a, int b) {
        isWay(a);
        isWay(b);
        free(a, b);
        return first(w(a), w(b), delta());
    }

    // ---- the best answer: all plans are tried ----

    private int[] bestPlan;

    private Q[] bestWorths(int person, Mood[] way) {
        int plans = (int) Math.round(Math.pow(s.acts, way.length));
        Q[] best = null;
        List<int[]> allPlans = new ArrayList<>();
        List<Q[]> allWorths = new ArrayList<>();
        for (int number = 0; number < plans; number++) {
            int[] plan = new int[way.length];
            int rest = number;
            // the first mood's act is the slowest to change
            for (int i = way.length - 1; i >= 0; i--) {
                plan[i] = rest % s.acts;
                rest /= s.acts;
            }
            Q[][] m = new Q[way.length][way.length];
            Q[] r = new Q[way.length];
            for (int i = 0; i < way.length; i++) {
                Arrays.fill(m[i], Q.ZERO);
                m[i][i] = Q.ONE;
                int to = way[i].next[plan[i]];
                m[i][to] = m[i][to].minus(delta());
                r[i] = Q.of(person == 0 ? s.brings[plan[i]][way[i].act][0] : s.brings[way[i].act][plan[i]][1]);
            }
            Q[] v = solve(m, r);
            allPlans.add(plan);
            allWorths.add(v);
            if (best == null) {
                best = v.clone();
            }
            for (int i = 0; i < v.length; i++) {
                best[i] = v[i].compareTo(best[i]) > 0 ? v[i] : best[i];
            }
        }
        for (int k = 0; k < plans; k++) {
            boolean all = true;
            for (int i = 0; i < way.length; i++) {
                all = all && allWorths.get(k)[i].compareTo(best[i]) == 0;
            }
            if (all) {
                bestPlan = allPlans.get(k);
                return best;
            }
        }
        throw new AssertionError("no plan is best from all moods");
    }

    public int best(int person, int way, int mood) {
        person(person);
        isWay(way);
        isMood(way, mood);
        state(!barred(way));
        bestWorths(person, w(way));
        return bestPlan[mood];
    }

    public long answer(int person, int way, int mood, boolean below) {
        best(person, way, mood);
        return bestWorths(person, w(way))[mood].told(below);
    }

    // ---- one day ----

    private int own(int person, int mine, int others) {
        return person == 0 ? s.brings[mine][others][0] : s.brings[others][mine][1];
    }

    public int least(int person, boolean threat) {
        person(person);
        int least = Integer.MAX_VALUE;
        int by = -1;
        for (int y = 0; y < s.acts; y++) {
            int most = Integer.MIN_VALUE;
            for (int x = 0; x < s.acts; x++) {
                most = Math.max(most, own(person, x, y));
            }
            if (most < least) {
                least = most;
                by = y;
            }
        }
        return threat ? by : least;
    }

    /** From the other one's side: of its chances that make some acts bring the same, those by which the most is least. */
    public long lots(int person, boolean below) {
        person(person);
        Q value = null;
        for (int support = 1; support < 1 << s.acts; support++) {
            for (int equal = 1; equal < 1 << s.acts; equal++) {
                int size = Integer.bitCount(support);
                if (Integer.bitCount(equal) != size) {
                    continue;
                }
                int[] ys = bits(support);
                int[] xs = bits(equal);
                // unknown: a chance for each of ys, and what all of xs bring
                Q[][] m = new Q[size + 1][size + 1];
                Q[] r = new Q[size + 1];
                for (int i = 0; i < size; i++) {
                    for (int k = 0; k < size; k++) {
                        m[i][k] = Q.of(own(person, xs[i], ys[k]));
                    }
                    m[i][size] = Q.of(-1);
                    r[i] = Q.ZERO;
                    m[size][i] = Q.ONE;
                }
                m[size][size] = Q.ZERO;
                r[size] = Q.ONE;
                Q[] chances = solve(m, r);
                boolean good = chances != null;
                for (int i = 0; good && i < size; i++) {
                    good = chances[i].n.signum() >= 0;
                }
                if (!good) {
                    continue;
                }
                Q most = null;
                for (int x = 0; x < s.acts; x++) {
                    Q sum = Q.ZERO;
                    for (int k = 0; k < size; k++) {
                        sum = sum.plus(chances[k].times(Q.of(own(person, x, ys[k]))));
                    }
                    most = most == null || sum.compareTo(most) > 0 ? sum : most;
                }
                value = value == null || most.compareTo(value) < 0 ? most : value;
            }
        }
        return value.told(below);
    }

    private static int[] bits(int set) {
        int[] all = new int[Integer.bitCount(set)];
        int n = 0;
        for (int i = 0; i < 8; i++) {
            if ((set >> i & 1) == 1) {
                all[n++] = i;
            }
        }
        return all;
    }

    public int once() {
        int bits = 0;
        for (int a = 0; a < s.acts; a++) {
            for (int b = 0; b < s.acts; b++) {
                boolean steady = true;
                for (int z = 0; z < s.acts; z++) {
                    steady = steady && s.brings[z][b][0] <= s.brings[a][b][0] && s.brings[a][z][1] <= s.brings[a][b][1];
                }
                bits |= steady ? 1 << (3 * a + b) : 0;
            }
        }
        return bits;
    }

    // ---- the body: by triangles ----

    private List<long[]> points() {
        List<long[]> all = new ArrayList<>();
        for (int a = 0; a < s.acts; a++) {
            for (int b = 0; b < s.acts; b++) {
                long[] point = {s.brings[a][b][0], s.brings[a][b][1]};
                if (all.stream().noneMatch(o -> Arrays.equals(o, point))) {
                    all.add(point);
                }
            }
        }
        return all;
    }

    private static long cross(long[] o, long[] a, long[] b) {
        return (a[0] - o[0]) * (b[1] - o[1]) - (a[1] - o[1]) * (b[0] - o[0]);
    }

    private static boolean inTriangle(long[] a, long[] b, long[] c, long[] x) {
        long p = cross(a, b, x);
        long q = cross(b, c, x);
        long r = cross(c, a, x);
        boolean sameTurn = p >= 0 && q >= 0 && r >= 0 || p <= 0 && q <= 0 && r <= 0;
        // for three points in a line: also within their box
        return sameTurn && x[0] >= Math.min(a[0], Math.min(b[0], c[0])) && x[0] <= Math.max(a[0], Math.max(b[0], c[0]))
                && x[1] >= Math.min(a[1], Math.min(b[1], c[1])) && x[1] <= Math.max(a[1], Math.max(b[1], c[1]));
    }

    private static boolean within(List<long[]> points, long[] x) {
        for (long[] a : points) {
            for (long[] b : points) {
                for (long[] c : points) {
                    if (inTriangle(a, b, c, x)) {
                        return true;
                    }
                }
            }
        }
        return false;
    }

    private List<long[]> corners() {
        List<long[]> points = points();
        List<long[]> corners = new ArrayList<>();
        for (long[] point : points) {
            List<long[]> others = new ArrayList<>(points);
            others.remove(point);
            if (!within(others, point)) {
                corners.add(point);
            }
        }
        corners.sort((a, b) -> a[0] != b[0] ? Long.compare(a[0], b[0]) : Long.compare(a[1], b[1]));
        long[] start = corners.remove(0);
        corners.sort((a, b) -> Long.compare(0, cross(start, a, b)));
        corners.add(0, start);
        return corners;
    }

    public int corner(int k, boolean up) {
        List<long[]> corners = corners();
        return k < 0 || k >= corners.size() ? 1000 : (int) corners.get(k)[up ? 1 : 0];
    }

    public boolean in(int x, int y, int d, boolean kept) {
        arg(d >= 1 && d <= 1000);
        arg(x >= -100000 && x <= 100000 && y >= -100000 && y <= 100000);
        List<long[]> scaled = new ArrayList<>();
        for (long[] point : points()) {
            scaled.add(new long[] {point[0] * d, point[1] * d});
        }
        return within(scaled, new long[] {x, y}) && (!kept || x > least(0, false) * d && y > least(1, false) * d);
    }

    /** By days 0 (all is kept) to n (n days of threat are left). */
    public int mild(int keepA, int keepB, int threatA, int threatB) {
        act(keepA);
        act(keepB);
        act(threatA);
        act(threatB);
        for (int n = 0; n <= 9; n++) {
            boolean gains = false;
            for (int person = 0; person < 2; person++) {
                int[] mine = new int[n + 1];
                int[] others = new int[n + 1];
                Q[][] m = new Q[n + 1][n + 1];
                Q[] r = new Q[n + 1];
                for (int left = 0; left <= n; left++) {
                    int a = left == 0 ? keepA : threatA;
                    int b = left == 0 ? keepB : threatB;
                    mine[left] = person == 0 ? a : b;
                    others[left] = person == 0 ? b : a;
                    Arrays.fill(m[left], Q.ZERO);
                    m[left][left] = Q.ONE;
                    int to = left == 0 ? 0 : left - 1;
                    m[left][to] = m[left][to].minus(delta());
                    r[left] = Q.of(own(person, mine[left], others[left]));
                }
                Q[] v = solve(m, r);
                for (int left = 0; left <= n; left++) {
                    for (int z = 0; z < s.acts; z++) {
                        Q other = Q.of(own(person, z, others[left])).plus(delta().times(v[n]));
                        gains = gains || z != mine[left] && other.compareTo(v[left]) > 0;
                    }
                }
            }
            if (!gains) {
                return n;
            }
        }
        return -1;
    }

    public int edge(int a, int b, int q) {
        isWay(a);
        isWay(b);
        arg(q >= 2 && q <= 12);
        free(a, b);
        Q least = null;
        for (int y = 2; y <= q; y++) {
            for (int x = 1; x < y; x++) {
                Q part = Q.of(x, y);
                if ((least == null || part.compareTo(least) < 0) && first(w(a), w(b), part) == -1) {
                    least = part;
                }
            }
        }
        return least == null ? -1 : (int) (100 * least.told(false) + least.told(true));
    }

    public int together() {
        Q most = null;
        int best = -1;
        for (int a = 0; a < s.ways.size(); a++) {
            for (int b = 0; b < s.ways.size(); b++) {
                if (barred(a) || barred(b) || first(w(a), w(b), delta()) != -1) {
                    continue;
                }
                Q sum = worths(w(a), w(b), 0, delta(), Q.ZERO)[0][0].plus(worths(w(a), w(b), 1, delta(), Q.ZERO)[0][0]);
                if (most == null || sum.compareTo(most) > 0) {
                    most = sum;
                    best = 8 * a + b;
                }
            }
        }
        return best;
    }

    public void mistakes(int e, int f) {
        arg(0 <= e && e < f && f <= 9);
        s.e = e;
        s.f = f;
    }

    public long doubt(int a, int b, int person, boolean cost, boolean below) {
        isWay(a);
        isWay(b);
        person(person);
        free(a, b);
        state(s.acts == 2 && w(a).length <= 2 && w(b).length <= 2);
        Q doubted = worths(w(a), w(b), person, delta(), Q.of(s.e, s.f))[0][0];
        Q sure = worths(w(a), w(b), person, delta(), Q.ZERO)[0][0];
        return (cost ? sure.minus(doubted) : doubted).told(below);
    }

    // ---- days ----

    public int row() {
        List<Integer> read = tape;
        tape = new ArrayList<>();
        arg(read.size() % 2 == 0 && read.stream().allMatch(x -> x <= 2));
        s.row = read.stream().mapToInt(x -> x).toArray();
        return s.row.length / 2;
    }

    public int judge(int a, int b) {
        isWay(a);
        isWay(b);
        free(a, b);
        state(Arrays.stream(s.row).allMatch(x -> x < s.acts));
        int i = 0;
        int k = 0;
        for (int day = 0; day < s.row.length / 2; day++) {
            int x = s.row[2 * day];
            int y = s.row[2 * day + 1];
            if (w(a)[i].act != x || w(b)[k].act != y) {
                return 2 * day + (w(a)[i].act != x ? 0 : 1);
            }
            i = w(a)[i].next[y];
            k = w(b)[k].next[x];
        }
        return -1;
    }

    public int brought(int person) {
        person(person);
        int sum = 0;
        for (int day = 0; day < s.row.length / 2; day++) {
            sum += s.brings[s.row[2 * day]][s.row[2 * day + 1]][person];
        }
        return sum;
    }

    public int drawn(int a, int b, int days, int seed, int what) {
        isWay(a);
        isWay(b);
        arg(days >= 0 && days <= 100);
        free(a, b);
        state(s.e == 0 || s.acts == 2);
        such(what >= 0 && what <= 3);
        int[] got = new int[2];
        int i = 0;
        int k = 0;
        BigInteger seeds = BigInteger.valueOf(seed);
        for (int day = 0; day < days; day++) {
            int x = w(a)[i].act;
            int y = w(b)[k].act;
            got[0] += s.brings[x][y][0];
            got[1] += s.brings[x][y][1];
            int[] seen = {y, x};
            for (int eye = 0; eye < 2 && s.e > 0; eye++) {
                seeds = BigInteger.valueOf(1103515245).multiply(seeds).add(BigInteger.valueOf(12345))
                        .mod(BigInteger.ONE.shiftLeft(32));
                int chance = seeds.shiftRight(16).mod(BigInteger.valueOf(32768)).intValue() % s.f;
                seen[eye] = chance < s.e ? 1 - seen[eye] : seen[eye];
            }
            i = w(a)[i].next[seen[0]];
            k = w(b)[k].next[seen[1]];
        }
        return what < 2 ? got[what] : what == 2 ? i : k;
    }

    // ---- the field ----

    public void field(int way, int n) {
        isWay(way);
        arg(n >= 0 && n <= 1000);
        s.beings[way] = n;
    }

    public void rounds(int n) {
        arg(n >= 1 && n <= 30);
        s.rounds = n;
    }

    private int met(int a, int b) {
        int i = 0;
        int k = 0;
        int sum = 99 * s.rounds;
        for (int round = 0; round < s.rounds; round++) {
            int x = w(a)[i].act;
            int y = w(b)[k].act;
            sum += s.brings[x][y][0];
            i = w(a)[i].next[y];
            k = w(b)[k].next[x];
        }
        return sum;
    }

    public int meet(int a, int b) {
        isWay(a);
        isWay(b);
        free(a, b);
        return met(a, b);
    }

    public int grow(int steps) {
        arg(steps >= 0 && steps <= 50);
        int changes = 0;
        for (int step = 0; step < steps; step++) {
            List<Integer> there = new ArrayList<>();
            long all = 0;
            for (int a = 0; a < s.ways.size(); a++) {
                if (!barred(a)) {
                    there.add(a);
                    all += s.beings[a];
                }
            }
            Q total = Q.ZERO;
            Q[] weight = new Q[8];
            for (int a : there) {
                long fit = 0;
                for (int b : there) {
                    fit += (long) met(a, b) * s.beings[b];
                }
                weight[a] = Q.of(s.beings[a]).times(Q.of(fit));
                total = total.plus(weight[a]);
            }
            if (total.n.signum() == 0) {
                continue;
            }
            int[] old = s.beings.clone();
            Q[] rest = new Q[8];
            long left = all;
            for (int a : there) {
                Q part = Q.of(all).times(weight[a]).over(total);
                long whole = part.n.divide(part.d).longValueExact();
                rest[a] = part.minus(Q.of(whole));
                s.beings[a] = (int) whole;
                left -= whole;
            }
            there.sort((x, y) -> rest[y].compareTo(rest[x]));
            for (int i = 0; i < left; i++) {
                s.beings[there.get(i)]++;
            }
            changes += Arrays.equals(old, s.beings) ? 0 : 1;
        }
        return changes;
    }

    public int beings(int way) {
        isWay(way);
        return s.beings[way];
    }

    public boolean stays(int way) {
        isWay(way);
        state(!barred(way));
        for (int o = 0; o < s.ways.size(); o++) {
            if (o == way || barred(o)) {
                continue;
            }
            boolean keeps = met(way, way) > met(o, way)
                    || met(way, way) == met(o, way) && met(way, o) > met(o, o);
            if (!keeps) {
                return false;
            }
        }
        return true;
    }

    public int all(int way, int what) {
        isWay(way);
        state(s.acts == 2 && !barred(way));
        such(what >= 0 && what <= 3);
        int holding = 0;
        int leastHolding = -1;
        int bests = 0;
        int leastBest = -1;
        Q best = bestWorths(1, w(way))[0];
        for (int number = 63; number >= 0; number--) {
            Mood[] other = {new Mood(), new Mood()};
            other[0].act = number & 1;
            other[1].act = number >> 1 & 1;
            other[0].next[0] = number >> 2 & 1;
            other[0].next[1] = number >> 3 & 1;
            other[1].next[0] = number >> 4 & 1;
            other[1].next[1] = number >> 5 & 1;
            if (first(w(way), other, delta()) == -1) {
                holding++;
                leastHolding = number;
            }
            if (worths(w(way), other, 1, delta(), Q.ZERO)[0][0].compareTo(best) == 0) {
                bests++;
                leastBest = number;
            }
        }
        return new int[] {holding, bests, leastBest, leastHolding}[what];
    }

    public int begin(int a, int b) {
        isWay(a);
        isWay(b);
        free(a, b);
        for (int cost = 0;; cost++) {
            boolean enough = true;
            for (int person = 0; person < 2; person++) {
                Q[][] v = worths(w(a), w(b), person, delta(), Q.ZERO);
                int i = 0;
                int k = 0;
                for (int day = 0; day < 20; day++) {
                    enough = enough && v[0][0].minus(v[i][k]).compareTo(Q.of(cost)) <= 0;
                    int x = w(a)[i].act;
                    int y = w(b)[k].act;
                    i = w(a)[i].next[y];
                    k = w(b)[k].next[x];
                }
            }
            if (enough) {
                return cost;
            }
        }
    }

    // ---- the village ----

    public int villager(int cost, int gain) {
        arg(cost >= 0 && cost <= 999 && gain >= 1 && gain <= 99);
        if (s.village.size() == 6) {
            throw new UnsupportedOperationException();
        }
        s.village.add(new int[] {cost, gain});
        return s.village.size() - 1;
    }

    private Q villageEdge(int[] one, int n) {
        int over = one[0] - one[1];
        if (over <= 0) {
            return Q.ZERO;
        }
        if (n == 1) {
            return Q.ONE;
        }
        Q part = Q.of(over, (long) (n - 1) * one[1]);
        return part.compareTo(Q.ONE) >= 0 ? Q.ONE : part;
    }

    public int villageEdge(int who, boolean below) {
        index(who >= 0 && who < s.village.size());
        return (int) villageEdge(s.village.get(who), s.village.size()).told(below);
    }

    private boolean held(int out) {
        List<int[]> left = new ArrayList<>();
        for (int i = 0; i < s.village.size(); i++) {
            if ((out >> i & 1) == 0) {
                left.add(s.village.get(i));
            }
        }
        return left.stream().allMatch(one -> {
            Q part = villageEdge(one, left.size());
            return part.compareTo(Q.ONE) != 0 && delta().compareTo(part) >= 0;
        });
    }

    public int village(int what) {
        such(what >= 0 && what <= 2);
        int n = s.village.size();
        if (what == 0) {
            int weak = -1;
            for (int i = n - 1; i >= 0; i--) {
                if (weak == -1 || villageEdge(s.village.get(i), n).compareTo(villageEdge(s.village.get(weak), n)) >= 0) {
                    weak = i;
                }
            }
            return weak;
        }
        if (what == 1) {
            return held(0) ? 1 : 0;
        }
        for (int size = 0; size <= n; size++) {
            for (int out = 0; out < 1 << n; out++) {
                if (Integer.bitCount(out) == size && held(out)) {
                    return out;
                }
            }
        }
        throw new AssertionError("nobody left is held");
    }

    public void image() {
        image = s.copy();
    }

    public boolean back() {
        if (image == null) {
            return false;
        }
        s = image.copy();
        return true;
    }

    public int count(int what) {
        int barred = 0;
        for (int i = 0; i < s.ways.size(); i++) {
            barred += barred(i) ? 1 : 0;
        }
        int[] all = {s.acts, s.ways.size(), barred, s.p, s.q, s.e, s.f, s.row.length / 2,
            Arrays.stream(s.beings).sum(), s.rounds, s.village.size(), corners().size()};
        return what < 0 || what >= all.length ? -1 : all[what];
    }
}
