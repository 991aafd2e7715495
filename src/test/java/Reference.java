import java.math.BigInteger;
import java.util.ArrayList;
import java.util.List;

/**
 * The document a second time, for the random runs: slow, and by other ways than PoleShop wherever
 * there is one (determinants at points, Sylvester's square, placing by trying each unit row).
 */
final class Reference {
    private static final long M = 10007;

    private static final class Plant {
        final int n;
        final long[][] a;
        final long[] b;
        final long[] c;
        long d;

        Plant(int n) {
            this.n = n;
            a = new long[n][n];
            b = new long[n];
            c = new long[n];
        }
    }

    private final List<Plant> plants = new ArrayList<>();
    private final List<Integer> poles = new ArrayList<>();
    private final List<Integer> inputs = new ArrayList<>();

    private static long mod(long x) {
        return Math.floorMod(x, M);
    }

    private static long inverse(long x) {
        return BigInteger.valueOf(x).modInverse(BigInteger.valueOf(M)).longValue();
    }

    private static IndexOutOfBoundsException noPlace() {
        return new IndexOutOfBoundsException();
    }

    private static IllegalArgumentException badArgument() {
        return new IllegalArgumentException();
    }

    private static IllegalStateException badState() {
        return new IllegalStateException();
    }

    // ---- systems

    int system(int order) {
        if (order < 1 || order > 4) throw badArgument();
        return keep(new Plant(order));
    }

    private int keep(Plant plant) {
        if (plants.size() == 12) throw badState();
        plants.add(plant);
        return plants.size() - 1;
    }

    private Plant get(int system) {
        if (system < 0 || system >= plants.size()) throw noPlace();
        return plants.get(system);
    }

    private static void inside(int value, int least, int most) {
        if (value < least || value > most) throw badArgument();
    }

    int set(int system, int what, int row, int column, int value) {
        int before = at(system, what, row, column);
        inside(value, -10006, 10006);
        Plant p = get(system);
        if (what == 0) p.a[row][column] = mod(value);
        if (what == 1) p.b[row] = mod(value);
        if (what == 2) p.c[column] = mod(value);
        if (what == 3) p.d = mod(value);
        return before;
    }

    int at(int system, int what, int row, int column) {
        Plant p = get(system);
        boolean rowIn = row >= 0 && row < p.n;
        boolean columnIn = column >= 0 && column < p.n;
        if (what == 0 && rowIn && columnIn) return (int) p.a[row][column];
        if (what == 1 && rowIn) return (int) p.b[row];
        if (what == 2 && columnIn) return (int) p.c[column];
        if (what == 3) return (int) p.d;
        throw noPlace();
    }

    /** The joined equations, entry by entry: which of the two each place of the state belongs to. */
    int join(int one, int other, boolean inSeries) {
        Plant f = get(one);
        Plant s = get(other);
        if (f.n + s.n > 8) throw badState();
        Plant made = new Plant(f.n + s.n);
        for (int i = 0; i < made.n; i++) {
            boolean front = i < f.n;
            made.b[i] = front ? f.b[i] : inSeries ? mod(s.b[i - f.n] * f.d) : s.b[i - f.n];
            made.c[i] = front ? inSeries ? mod(s.d * f.c[i]) : f.c[i] : s.c[i - f.n];
            for (int j = 0; j < made.n; j++) {
                if (front && j < f.n) made.a[i][j] = f.a[i][j];
                if (!front && j >= f.n) made.a[i][j] = s.a[i - f.n][j - f.n];
                if (!front && j < f.n && inSeries) made.a[i][j] = mod(s.b[i - f.n] * f.c[j]);
            }
        }
        made.d = inSeries ? mod(f.d * s.d) : mod(f.d + s.d);
        return keep(made);
    }

    int loop(int system, int gain) {
        Plant p = get(system);
        inside(gain, -10006, 10006);
        long s = mod(1 + gain * p.d);
        if (s == 0) throw badState();
        Plant made = new Plant(p.n);
        for (int i = 0; i < p.n; i++) {
            for (int j = 0; j < p.n; j++) {
                made.a[i][j] = mod(p.a[i][j] - mod(p.b[i] * p.c[j]) * mod(gain) % M * inverse(s));
            }
            made.b[i] = mod(p.b[i] * inverse(s));
            made.c[i] = mod(p.c[i] * inverse(s));
        }
        made.d = mod(p.d * inverse(s));
        return keep(made);
    }

    // ---- poles, inputs

    int pole(int value) {
        return type(poles, 16, value);
    }

    int input(int value) {
        return type(inputs, 20, value);
    }

    private static int type(List<Integer> typed, int most, int value) {
        inside(value, -10006, 10006);
        if (typed.size() == most) throw badState();
        typed.add((int) mod(value));
        return typed.size();
    }

    int clear() {
        int before = poles.size() + inputs.size();
        poles.clear();
        inputs.clear();
        return before;
    }

    int placed(int system) {
        Plant p = get(system);
        long[] k = place(p, 0, false);
        Plant made = new Plant(p.n);
        for (int i = 0; i < p.n; i++) {
            made.b[i] = p.b[i];
            made.c[i] = p.c[i];
            for (int j = 0; j < p.n; j++) made.a[i][j] = mod(p.a[i][j] - p.b[i] * k[j]);
        }
        made.d = p.d;
        return keep(made);
    }

    int joined(int system) {
        Plant p = get(system);
        if (p.n > 4 || p.d != 0 || poles.size() < 2 * p.n) throw badState();
        long[] k = place(p, 0, false);
        long[] l = place(p, p.n, true);
        Plant made = new Plant(2 * p.n);
        for (int i = 0; i < made.n; i++) {
            int row = i % p.n;
            boolean below = i >= p.n;
            made.b[i] = p.b[row];
            made.c[i] = below ? 0 : p.c[i];
            for (int j = 0; j < made.n; j++) {
                int column = j % p.n;
                boolean beside = j >= p.n;
                long sum = below == beside ? p.a[row][column] : 0;
                if (beside) sum -= p.b[row] * k[column];
                if (below) sum += (beside ? -1 : 1) * l[row] * p.c[column];
                made.a[i][j] = mod(sum);
            }
        }
        return keep(made);
    }

    /** The row k or the column l, by what the polynomial becomes with each unit row or column. */
    private long[] place(Plant p, int from, boolean toSee) {
        if (poles.size() < from + p.n || rankOf(p, toSee) < p.n) throw badState();
        long[] asked = {1};
        for (int i = 0; i < p.n; i++) {
            long[] next = new long[asked.length + 1];
            for (int j = 0; j < asked.length; j++) {
                next[j + 1] = mod(next[j + 1] + asked[j]);
                next[j] = mod(next[j] - poles.get(from + i) * asked[j]);
            }
            asked = next;
        }
        long[] own = below(p.a);
        long[][] equations = new long[p.n][p.n + 1];
        for (int unit = 0; unit < p.n; unit++) {
            long[][] a = new long[p.n][p.n];
            for (int i = 0; i < p.n; i++) {
                for (int j = 0; j < p.n; j++) {
                    long away = toSee ? (i == unit ? p.c[j] : 0) : (j == unit ? p.b[i] : 0);
                    a[i][j] = mod(p.a[i][j] - away);
                }
            }
            long[] changed = below(a);
            for (int power = 0; power < p.n; power++) equations[power][unit] = mod(changed[power] - own[power]);
        }
        for (int power = 0; power < p.n; power++) equations[power][p.n] = mod(asked[power] - own[power]);
        return cramer(equations);
    }

    private static long[] cramer(long[][] equations) {
        int n = equations.length;
        long[] result = new long[n];
        long[][] square = new long[n][n];
        for (int replaced = -1; replaced < n; replaced++) {
            for (int i = 0; i < n; i++) {
                for (int j = 0; j < n; j++) square[i][j] = equations[i][j == replaced ? n : j];
            }
            long value = determinant(square);
            if (replaced < 0) {
                java.util.Arrays.fill(result, inverse(value));
            } else {
                result[replaced] = mod(result[replaced] * value);
            }
        }
        return result;
    }

    // ---- what is asked

    int order(int system) {
        return get(system).n;
    }

    int polynomial(int system, int power, boolean isNumerator) {
        Plant p = get(system);
        if (power < 0 || power > p.n) throw noPlace();
        return (int) (isNumerator ? above(p) : below(p.a))[power];
    }

    /** By the columns that are taken in so far, a set of bits: the sum of signed products of the first rows. */
    private static long determinant(long[][] a) {
        int n = a.length;
        long[] sums = new long[1 << n];
        sums[0] = 1;
        for (int taken = 0; taken < 1 << n; taken++) {
            int row = Integer.bitCount(taken);
            for (int j = 0; j < n && row < n; j++) {
                if ((taken >> j & 1) == 1) continue;
                long sign = Integer.bitCount(taken >> j) % 2 == 0 ? 1 : -1;
                sums[taken | 1 << j] = mod(sums[taken | 1 << j] + sign * sums[taken] * a[row][j]);
            }
        }
        return sums[(1 << n) - 1];
    }

    /** The determinant of (x times the identity, less A) at the points 0 to n, and Lagrange's polynomial through them. */
    private static long[] below(long[][] a) {
        int n = a.length;
        long[] result = new long[n + 1];
        for (int point = 0; point <= n; point++) {
            long[][] at = new long[n][n];
            for (int i = 0; i < n; i++) {
                for (int j = 0; j < n; j++) at[i][j] = mod((i == j ? point : 0) - a[i][j]);
            }
            long value = determinant(at);
            long[] basis = {1};
            for (int other = 0; other <= n; other++) {
                if (other == point) continue;
                long[] next = new long[basis.length + 1];
                for (int i = 0; i < basis.length; i++) {
                    next[i + 1] = mod(next[i + 1] + basis[i]);
                    next[i] = mod(next[i] - other * basis[i]);
                }
                value = mod(value * inverse(mod(point - other)));
                basis = next;
            }
            for (int i = 0; i <= n; i++) result[i] = mod(result[i] + value * basis[i]);
        }
        return result;
    }

    /** The determinant grows by the numerator where b times c is added to the square in it. */
    private static long[] above(Plant p) {
        long[][] a = new long[p.n][p.n];
        for (int i = 0; i < p.n; i++) {
            for (int j = 0; j < p.n; j++) a[i][j] = mod(p.a[i][j] - p.b[i] * p.c[j]);
        }
        long[] with = below(a);
        long[] without = below(p.a);
        for (int i = 0; i <= p.n; i++) with[i] = mod(with[i] - without[i]);
        return with;
    }

    int rank(int system, boolean toSee) {
        return rankOf(get(system), toSee);
    }

    private static int rankOf(Plant p, boolean toSee) {
        long[][] rows = new long[p.n][];
        long[] here = toSee ? p.c : p.b;
        for (int i = 0; i < p.n; i++) {
            rows[i] = here;
            long[] next = new long[p.n];
            for (int j = 0; j < p.n; j++) {
                for (int k = 0; k < p.n; k++) next[j] = mod(next[j] + (toSee ? p.a[k][j] : p.a[j][k]) * here[k]);
            }
            here = next;
        }
        return rank(rows);
    }

    /** Row by row: each is freed of the leads of those before it, and counts if something is left. */
    private static int rank(long[][] rows) {
        List<long[]> kept = new ArrayList<>();
        for (long[] given : rows) {
            long[] row = given.clone();
            for (long[] other : kept) {
                int lead = lead(other);
                long factor = mod(row[lead] * inverse(other[lead]));
                for (int j = 0; j < row.length; j++) row[j] = mod(row[j] - factor * other[j]);
            }
            if (lead(row) < row.length) kept.add(row);
        }
        return kept.size();
    }

    private static int lead(long[] row) {
        int place = 0;
        while (place < row.length && row[place] == 0) place++;
        return place;
    }

    int number(int system, int k) {
        Plant p = get(system);
        inside(k, 0, 40);
        return (int) h(p, k);
    }

    /** By turns of the row, not of the column. */
    private static long h(Plant p, int k) {
        if (k == 0) return p.d;
        long[] row = p.c;
        for (int i = 1; i < k; i++) {
            long[] next = new long[p.n];
            for (int j = 0; j < p.n; j++) {
                for (int m = 0; m < p.n; m++) next[j] = mod(next[j] + row[m] * p.a[m][j]);
            }
            row = next;
        }
        long sum = 0;
        for (int i = 0; i < p.n; i++) sum = mod(sum + row[i] * p.b[i]);
        return sum;
    }

    int output(int system, int step) {
        Plant p = get(system);
        inside(step, 0, 40);
        long[] x = new long[p.n];
        long y = 0;
        for (int t = 0; t <= step; t++) {
            long u = t < inputs.size() ? inputs.get(t) : 0;
            y = mod(p.d * u);
            long[] next = new long[p.n];
            for (int i = 0; i < p.n; i++) {
                y = mod(y + p.c[i] * x[i]);
                next[i] = mod(p.b[i] * u);
                for (int j = 0; j < p.n; j++) next[i] = mod(next[i] + p.a[i][j] * x[j]);
            }
            x = next;
        }
        return (int) y;
    }

    int gain(int system, int place) {
        Plant p = get(system);
        if (place < 0 || place >= p.n) throw noPlace();
        return (int) place(p, 0, false)[place];
    }

    int observer(int system, int place) {
        Plant p = get(system);
        if (place < 0 || place >= p.n) throw noPlace();
        return (int) place(p, p.n, true)[place];
    }

    int cost(int system, int q, int r, int steps) {
        Plant plant = get(system);
        inside(q, 0, 10006);
        inside(r, 0, 10006);
        inside(steps, 0, 20);
        int n = plant.n;
        long[][] end = times(plant.c, plant.c, q);
        long[][] p = end;
        for (int step = 0; step < steps; step++) {
            long[] bp = new long[n];
            long m = r;
            for (int i = 0; i < n; i++) {
                for (int j = 0; j < n; j++) bp[i] = mod(bp[i] + plant.b[j] * p[j][i]);
                m = mod(m + bp[i] * plant.b[i]);
            }
            if (m == 0) throw badState();
            long[] k = new long[n];
            for (int i = 0; i < n; i++) {
                for (int j = 0; j < n; j++) k[i] = mod(k[i] + bp[j] * plant.a[j][i]);
            }
            p = plus(plus(end, around(plant.a, p)), times(k, k, mod(-inverse(m))));
        }
        long sum = 0;
        for (long[] row : p) {
            for (long entry : row) sum = mod(sum + entry);
        }
        return (int) sum;
    }

    private static long[][] times(long[] column, long[] row, long factor) {
        long[][] result = new long[column.length][row.length];
        for (int i = 0; i < column.length; i++) {
            for (int j = 0; j < row.length; j++) result[i][j] = mod(mod(column[i] * row[j]) * factor);
        }
        return result;
    }

    private static long[][] plus(long[][] one, long[][] other) {
        long[][] result = new long[one.length][one.length];
        for (int i = 0; i < one.length; i++) {
            for (int j = 0; j < one.length; j++) result[i][j] = mod(one[i][j] + other[i][j]);
        }
        return result;
    }

    private static long[][] around(long[][] a, long[][] p) {
        int n = a.length;
        long[][] result = new long[n][n];
        for (int i = 0; i < n; i++) {
            for (int j = 0; j < n; j++) {
                for (int k = 0; k < n; k++) {
                    for (int m = 0; m < n; m++) result[i][j] = mod(result[i][j] + mod(a[k][i] * p[k][m]) * a[m][j]);
                }
            }
        }
        return result;
    }

    /** By Sylvester's square: its rank is the sum of both powers, less that of the common polynomial. */
    int least(int system) {
        Plant p = get(system);
        long[] above = above(p);
        int power = p.n;
        while (power >= 0 && above[power] == 0) power--;
        if (power < 0) return 0;
        long[] below = below(p.a);
        long[][] rows = new long[p.n + power][p.n + power];
        for (int i = 0; i < power; i++) System.arraycopy(below, 0, rows[i], i, p.n + 1);
        for (int i = 0; i < p.n; i++) System.arraycopy(above, 0, rows[power + i], i, power + 1);
        return rank(rows) - power;
    }
}
