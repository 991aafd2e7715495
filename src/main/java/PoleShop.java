/**
 * A workshop of linear systems in exact numbers, the remainders by 10007.
 *
 * The arrays of every class here have room for the greatest order and are made once, in
 * constructors: a call makes no object but the exception that it throws.
 */
public final class PoleShop {
    public static final int MODULUS = 10007;
    public static final int SQUARE = 0, COLUMN = 1, ROW = 2, THROUGH = 3;

    private static final int MOST_SYSTEMS = 12;
    private static final int MOST_NEW_ORDER = 4;
    private static final int MOST_JOINED_ORDER = 4;
    private static final int MOST_ORDER = 8;
    private static final int MOST_POLES = 16;
    private static final int MOST_INPUTS = 20; // the room of poles, too
    private static final int LAST_STEP = 40;
    private static final int MOST_STEPS_BACK = 20;

    private final Plant[] plants = new Plant[MOST_SYSTEMS];
    private int plantCount;
    private final Typed poles = new Typed(MOST_POLES);
    private final Typed inputs = new Typed(MOST_INPUTS);
    private final Plant turned = new Plant();
    private final Placing placing = new Placing();
    private final int[] gains = new int[MOST_ORDER];
    private final int[] watch = new int[MOST_ORDER];
    private final Polynomials polynomials = new Polynomials();
    private final Answers answers = new Answers();
    private final StepsBack stepsBack = new StepsBack();

    public PoleShop() {
        for (int i = 0; i < MOST_SYSTEMS; i++) {
            plants[i] = new Plant();
        }
    }

    // ---- systems

    public int system(int order) throws IllegalArgumentException, IllegalStateException {
        if (order < 1 || order > MOST_NEW_ORDER) {
            throw new IllegalArgumentException("order is out of range");
        }
        newPlant(order);
        return plantCount - 1;
    }

    public int set(int system, int what, int row, int column, int value)
            throws IndexOutOfBoundsException, IllegalArgumentException {
        Plant plant = plantOf(system);
        requireEntry(plant, what, row, column);
        requireValue(value);
        int before = plant.read(what, row, column);
        plant.write(what, row, column, Numbers.remainder(value));
        return before;
    }

    public int join(int one, int other, boolean inSeries)
            throws IndexOutOfBoundsException, IllegalStateException {
        Plant first = plantOf(one);
        Plant second = plantOf(other);
        int n = first.n + second.n;
        if (n > MOST_ORDER) {
            throw new IllegalStateException("the order would be above 8");
        }
        Plant made = newPlant(n);
        if (inSeries) {
            made.beSeries(first, second);
        } else {
            made.beSideBySide(first, second);
        }
        return plantCount - 1;
    }

    public int loop(int system, int gain)
            throws IndexOutOfBoundsException, IllegalArgumentException, IllegalStateException {
        Plant plant = plantOf(system);
        requireValue(gain);
        int g = Numbers.remainder(gain);
        int s = Numbers.plus(1, Numbers.times(g, plant.through));
        if (s == 0) {
            throw new IllegalStateException("the loop has no solution");
        }
        newPlant(plant.n).beLoop(plant, g, s);
        return plantCount - 1;
    }

    // ---- poles, inputs

    public int pole(int value) throws IllegalArgumentException, IllegalStateException {
        return type(poles, value);
    }

    public int input(int value) throws IllegalArgumentException, IllegalStateException {
        return type(inputs, value);
    }

    public int clear() {
        int before = poles.count + inputs.count;
        poles.count = 0;
        inputs.count = 0;
        return before;
    }

    public int placed(int system) throws IndexOutOfBoundsException, IllegalStateException {
        Plant plant = plantOf(system);
        findGains(plant);
        newPlant(plant.n).bePlaced(plant, gains);
        return plantCount - 1;
    }

    public int joined(int system) throws IndexOutOfBoundsException, IllegalStateException {
        Plant plant = plantOf(system);
        if (plant.n > MOST_JOINED_ORDER || plant.through != 0) {
            throw new IllegalStateException("the order is above 4, or d is not 0");
        }
        findGains(plant);
        findWatch(plant);
        newPlant(2 * plant.n).beObserved(plant, gains, watch);
        return plantCount - 1;
    }

    // ---- what is asked

    public int at(int system, int what, int row, int column) throws IndexOutOfBoundsException {
        Plant plant = plantOf(system);
        requireEntry(plant, what, row, column);
        return plant.read(what, row, column);
    }

    public int order(int system) throws IndexOutOfBoundsException {
        return plantOf(system).n;
    }

    public int polynomial(int system, int power, boolean isNumerator) throws IndexOutOfBoundsException {
        Plant plant = plantOf(system);
        if (power < 0 || power > plant.n) {
            throw new IndexOutOfBoundsException("no such power");
        }
        polynomials.find(plant);
        return isNumerator ? polynomials.above[power] : polynomials.below[power];
    }

    public int rank(int system, boolean toSee) throws IndexOutOfBoundsException {
        Plant plant = plantOf(system);
        if (!toSee) {
            return placing.rankOfColumns(plant);
        }
        turned.beTurned(plant);
        return placing.rankOfColumns(turned);
    }

    public int number(int system, int k) throws IndexOutOfBoundsException, IllegalArgumentException {
        Plant plant = plantOf(system);
        requireRange(k, LAST_STEP);
        answers.findNumbers(plant, k);
        return answers.h[k];
    }

    public int output(int system, int step) throws IndexOutOfBoundsException, IllegalArgumentException {
        Plant plant = plantOf(system);
        requireRange(step, LAST_STEP);
        return answers.byState(plant, inputs, step);
    }

    public int outputAnew(int system, int step) throws IndexOutOfBoundsException, IllegalArgumentException {
        Plant plant = plantOf(system);
        requireRange(step, LAST_STEP);
        return answers.byNumbers(plant, inputs, step);
    }

    public int gain(int system, int place) throws IndexOutOfBoundsException, IllegalStateException {
        Plant plant = plantOf(system);
        requirePlace(plant, place);
        findGains(plant);
        return gains[place];
    }

    public int gainAnew(int system, int place) throws IndexOutOfBoundsException, IllegalStateException {
        Plant plant = plantOf(system);
        requirePlace(plant, place);
        requirePoles(plant.n);
        polynomials.find(plant);
        if (!placing.byCoefficients(plant, polynomials.below, poles, gains)) {
            throw new IllegalStateException("the system cannot be steered");
        }
        return gains[place];
    }

    public int observer(int system, int place) throws IndexOutOfBoundsException, IllegalStateException {
        Plant plant = plantOf(system);
        requirePlace(plant, place);
        findWatch(plant);
        return watch[place];
    }

    public int cost(int system, int q, int r, int steps)
            throws IndexOutOfBoundsException, IllegalArgumentException, IllegalStateException {
        Plant plant = plantOf(system);
        goBack(plant, q, r, steps);
        return stepsBack.costByEnd(plant.n);
    }

    public int costAnew(int system, int q, int r, int steps)
            throws IndexOutOfBoundsException, IllegalArgumentException, IllegalStateException {
        Plant plant = plantOf(system);
        goBack(plant, q, r, steps);
        return stepsBack.costByGoing(plant, q, r, steps);
    }

    public int least(int system) throws IndexOutOfBoundsException {
        Plant plant = plantOf(system);
        polynomials.find(plant);
        return plant.n - polynomials.commonDegree(plant.n);
    }

    public int leastAnew(int system) throws IndexOutOfBoundsException {
        return answers.rankOfNumbers(plantOf(system));
    }

    // ---- what several calls need

    private Plant plantOf(int system) {
        if (system < 0 || system >= plantCount) {
            throw new IndexOutOfBoundsException("no such system");
        }
        return plants[system];
    }

    /** The last test of a call: behind it nothing may be refused any more. The plant is all 0, as none comes back. */
    private Plant newPlant(int n) {
        if (plantCount >= MOST_SYSTEMS) {
            throw new IllegalStateException("there are 12 systems");
        }
        Plant made = plants[plantCount];
        made.n = n;
        plantCount++;
        return made;
    }

    private static int type(Typed typed, int value) {
        requireValue(value);
        if (typed.isFull()) {
            throw new IllegalStateException("no more can be typed");
        }
        return typed.add(Numbers.remainder(value));
    }

    private static void requireEntry(Plant plant, int what, int row, int column) {
        if (what < SQUARE || what > THROUGH) {
            throw new IndexOutOfBoundsException("a system has no such part");
        }
        if (what == SQUARE || what == COLUMN) {
            requirePlace(plant, row);
        }
        if (what == SQUARE || what == ROW) {
            requirePlace(plant, column);
        }
    }

    private static void requirePlace(Plant plant, int place) {
        if (place < 0 || place >= plant.n) {
            throw new IndexOutOfBoundsException("no such place");
        }
    }

    private static void requireValue(int value) {
        if (value <= -MODULUS || value >= MODULUS) {
            throw new IllegalArgumentException("value is out of range");
        }
    }

    private static void requireRange(int value, int most) {
        if (value < 0 || value > most) {
            throw new IllegalArgumentException("argument is out of range");
        }
    }

    private void requirePoles(int needed) {
        if (poles.count < needed) {
            throw new IllegalStateException("there are too few poles");
        }
    }

    private void findGains(Plant plant) {
        requirePoles(plant.n);
        if (!placing.byColumns(plant, poles, 0, gains)) {
            throw new IllegalStateException("the system cannot be steered");
        }
    }

    /** To observe a system is to place the poles of the turned one. */
    private void findWatch(Plant plant) {
        requirePoles(2 * plant.n);
        turned.beTurned(plant);
        if (!placing.byColumns(turned, poles, plant.n, watch)) {
            throw new IllegalStateException("the system cannot be seen");
        }
    }

    private void goBack(Plant plant, int q, int r, int steps) {
        requireRange(q, MODULUS - 1);
        requireRange(r, MODULUS - 1);
        requireRange(steps, MOST_STEPS_BACK);
        if (!stepsBack.find(plant, q, r, steps)) {
            throw new IllegalStateException("an m is 0");
        }
    }

    /** Reckoning with remainders, all of them 0 to 10006. */
    private static final class Numbers {
        private static final int EXPONENT_BITS = 14;

        static int remainder(int value) {
            return value < 0 ? value + MODULUS : value;
        }

        static int plus(int a, int b) {
            return (a + b) % MODULUS;
        }

        static int minus(int a, int b) {
            return (a + MODULUS - b) % MODULUS;
        }

        static int times(int a, int b) {
            return a * b % MODULUS;
        }

        /** By Fermat's theorem, a times b to the power MODULUS - 2, so that nothing is divided; b is not 0. */
        static int quotient(int a, int b) {
            int result = a;
            int power = b;
            for (int bit = 0; bit < EXPONENT_BITS; bit++) {
                if (((MODULUS - 2) >> bit & 1) == 1) {
                    result = result * power % MODULUS;
                }
                power = power * power % MODULUS;
            }
            return result;
        }
    }

    /** Rows, columns and squares of numbers, of which the first n places count. */
    private static final class Rows {
        static int product(int n, int[] row, int[] column) {
            int sum = 0;
            for (int i = 0; i < n; i++) {
                sum = Numbers.plus(sum, Numbers.times(row[i], column[i]));
            }
            return sum;
        }

        /** The result is another array than the column. */
        static void squareByColumn(int n, int[][] square, int[] column, int[] result) {
            for (int i = 0; i < n; i++) {
                result[i] = product(n, square[i], column);
            }
        }

        /** The result is another array than the row. */
        static void rowBySquare(int n, int[] row, int[][] square, int[] result) {
            for (int j = 0; j < n; j++) {
                int sum = 0;
                for (int i = 0; i < n; i++) {
                    sum = Numbers.plus(sum, Numbers.times(row[i], square[i][j]));
                }
                result[j] = sum;
            }
        }

        /** The result is another array than the two squares. */
        static void squareBySquare(int n, int[][] one, int[][] other, int[][] result) {
            for (int i = 0; i < n; i++) {
                rowBySquare(n, one[i], other, result[i]);
            }
        }

        static void copy(int n, int[] from, int[] to) {
            for (int i = 0; i < n; i++) {
                to[i] = from[i];
            }
        }

        static void fill(int n, int[] row, int value) {
            for (int i = 0; i < n; i++) {
                row[i] = value;
            }
        }
    }

    /** Numbers in the order in which they were typed. */
    private static final class Typed {
        final int[] values = new int[MOST_INPUTS];
        int count;
        private final int most;

        /** At most MOST_INPUTS. */
        Typed(int most) {
            this.most = most;
        }

        boolean isFull() {
            return count >= most;
        }

        /** Only for one that is not full. */
        int add(int value) {
            values[count] = value;
            count++;
            return count;
        }
    }

    /** One system: its order n, at most 8, the square A, the column b, the row c and the number d. */
    private static final class Plant {
        int n;
        final int[][] square = new int[MOST_ORDER][MOST_ORDER];
        final int[] column = new int[MOST_ORDER];
        final int[] row = new int[MOST_ORDER];
        int through;

        /** The places that matter were looked at. */
        int read(int what, int rowPlace, int columnPlace) {
            switch (what) {
                case SQUARE:
                    return square[rowPlace][columnPlace];
                case COLUMN:
                    return column[rowPlace];
                case ROW:
                    return row[columnPlace];
                default:
                    return through;
            }
        }

        /** The places that matter were looked at. */
        void write(int what, int rowPlace, int columnPlace, int value) {
            switch (what) {
                case SQUARE:
                    square[rowPlace][columnPlace] = value;
                    break;
                case COLUMN:
                    column[rowPlace] = value;
                    break;
                case ROW:
                    row[columnPlace] = value;
                    break;
                default:
                    through = value;
                    break;
            }
        }

        /** For a new plant, whose order is that of both together. */
        void beSeries(Plant one, Plant other) {
            putPart(0, one, 1, other.through);
            putPart(one.n, other, one.through, 1);
            for (int i = 0; i < other.n; i++) {
                for (int j = 0; j < one.n; j++) {
                    square[one.n + i][j] = Numbers.times(other.column[i], one.row[j]);
                }
            }
            through = Numbers.times(other.through, one.through);
        }

        /** For a new plant, whose order is that of both together. */
        void beSideBySide(Plant one, Plant other) {
            putPart(0, one, 1, 1);
            putPart(one.n, other, 1, 1);
            through = Numbers.plus(one.through, other.through);
        }

        /** Puts a plant's numbers from a place on, its column and its row so many times. */
        private void putPart(int from, Plant part, int columnTimes, int rowTimes) {
            for (int i = 0; i < part.n; i++) {
                for (int j = 0; j < part.n; j++) {
                    square[from + i][from + j] = part.square[i][j];
                }
                column[from + i] = Numbers.times(columnTimes, part.column[i]);
                row[from + i] = Numbers.times(rowTimes, part.row[i]);
            }
        }

        /** For a plant of the same order; s is not 0. */
        void beLoop(Plant plant, int g, int s) {
            int share = Numbers.quotient(g, s);
            int part = Numbers.quotient(1, s);
            for (int i = 0; i < n; i++) {
                int back = Numbers.times(share, plant.column[i]);
                for (int j = 0; j < n; j++) {
                    square[i][j] = Numbers.minus(plant.square[i][j], Numbers.times(back, plant.row[j]));
                }
                column[i] = Numbers.times(part, plant.column[i]);
                row[i] = Numbers.times(part, plant.row[i]);
            }
            through = Numbers.times(part, plant.through);
        }

        /** For a plant of the same order. */
        void bePlaced(Plant plant, int[] k) {
            for (int i = 0; i < n; i++) {
                for (int j = 0; j < n; j++) {
                    square[i][j] = Numbers.minus(plant.square[i][j], Numbers.times(plant.column[i], k[j]));
                }
                column[i] = plant.column[i];
                row[i] = plant.row[i];
            }
            through = plant.through;
        }

        /** For a new plant, whose order is twice that of the other one. */
        void beObserved(Plant plant, int[] k, int[] l) {
            int half = plant.n;
            for (int i = 0; i < half; i++) {
                for (int j = 0; j < half; j++) {
                    int steered = Numbers.times(plant.column[i], k[j]);
                    int seen = Numbers.times(l[i], plant.row[j]);
                    int own = plant.square[i][j];
                    square[i][j] = own;
                    square[i][half + j] = Numbers.minus(0, steered);
                    square[half + i][j] = seen;
                    square[half + i][half + j] = Numbers.minus(Numbers.minus(own, steered), seen);
                }
                column[i] = plant.column[i];
                column[half + i] = plant.column[i];
                row[i] = plant.row[i];
            }
        }

        /** Rows for columns, as far as steering needs them: to steer this plant is to see the other one. */
        void beTurned(Plant plant) {
            n = plant.n;
            for (int i = 0; i < n; i++) {
                for (int j = 0; j < n; j++) {
                    square[i][j] = plant.square[j][i];
                }
                column[i] = plant.row[i];
            }
        }
    }

    /** Equations in at most 8 unknowns: a row of factors each, and the right side behind them. */
    private static final class Equations {
        final int[][] rows = new int[MOST_ORDER][MOST_ORDER + 1];

        void put(int n, int place, int[] factors, int rightSide) {
            Rows.copy(n, factors, rows[place]);
            rows[place][n] = rightSide;
        }

        /** The rank of n equations; if it is n, the right sides are the only solution then. */
        int solve(int n) {
            int found = 0;
            for (int column = 0; column < n; column++) {
                int pivot = firstWith(n, found, column);
                if (pivot < n) {
                    swap(found, pivot);
                    divide(n, found, rows[found][column]);
                    takeAway(n, found, column);
                    found++;
                }
            }
            return found;
        }

        void readSolution(int n, int[] solution) {
            for (int i = 0; i < n; i++) {
                solution[i] = rows[i][n];
            }
        }

        /** The first row, from one on, whose number in the column is not 0; n if there is none. */
        private int firstWith(int n, int from, int column) {
            int place = from;
            while (place < n && rows[place][column] == 0) {
                place++;
            }
            return place;
        }

        private void swap(int one, int other) {
            int[] kept = rows[one];
            rows[one] = rows[other];
            rows[other] = kept;
        }

        private void divide(int n, int place, int divisor) {
            int part = Numbers.quotient(1, divisor);
            for (int j = 0; j <= n; j++) {
                rows[place][j] = Numbers.times(part, rows[place][j]);
            }
        }

        private void takeAway(int n, int place, int column) {
            for (int i = 0; i < n; i++) {
                int factor = rows[i][column];
                if (i != place && factor != 0) {
                    for (int j = 0; j <= n; j++) {
                        rows[i][j] = Numbers.minus(rows[i][j], Numbers.times(factor, rows[place][j]));
                    }
                }
            }
        }
    }

    /** Ranks, and the two ways to place poles. */
    private static final class Placing {
        private final Equations equations = new Equations();
        private final int[] state = new int[MOST_ORDER];
        private final int[] next = new int[MOST_ORDER];
        private final int[] asked = new int[MOST_ORDER + 1];

        /** The rank of b, A b, A A b and so on. Solves for the row that is 1 on the last of these and 0 on the rest. */
        int rankOfColumns(Plant plant) {
            int n = plant.n;
            Rows.copy(n, plant.column, state);
            for (int i = 0; i < n; i++) {
                equations.put(n, i, state, i == n - 1 ? 1 : 0);
                Rows.squareByColumn(n, plant.square, state, next);
                Rows.copy(n, next, state);
            }
            return equations.solve(n);
        }

        /** The row k is that row times the product of all (A less p). False if the plant cannot be steered. */
        boolean byColumns(Plant plant, Typed poles, int from, int[] k) {
            int n = plant.n;
            if (rankOfColumns(plant) < n) {
                return false;
            }
            equations.readSolution(n, k);
            for (int i = 0; i < n; i++) {
                Rows.rowBySquare(n, k, plant.square, next);
                for (int j = 0; j < n; j++) {
                    k[j] = Numbers.minus(next[j], Numbers.times(poles.values[from + i], k[j]));
                }
            }
            return true;
        }

        /**
         * An equation for each power: where b times k is taken from A, its coefficient grows by k times a
         * column, that of the power in the adjugate of (x times the identity, less A), times b. This is b
         * at first, for power n - 1; the next is A times it and b times the own coefficient, together.
         */
        boolean byCoefficients(Plant plant, int[] own, Typed poles, int[] k) {
            int n = plant.n;
            findAsked(n, poles);
            Rows.copy(n, plant.column, state);
            for (int power = n - 1; power >= 0; power--) {
                equations.put(n, power, state, Numbers.minus(asked[power], own[power]));
                Rows.squareByColumn(n, plant.square, state, next);
                for (int j = 0; j < n; j++) {
                    state[j] = Numbers.plus(next[j], Numbers.times(own[power], plant.column[j]));
                }
            }
            if (equations.solve(n) < n) {
                return false;
            }
            equations.readSolution(n, k);
            return true;
        }

        private void findAsked(int n, Typed poles) {
            Rows.fill(n + 1, asked, 0);
            asked[0] = 1;
            for (int i = 0; i < n; i++) {
                int pole = poles.values[i];
                for (int power = n; power > 0; power--) {
                    asked[power] = Numbers.minus(asked[power - 1], Numbers.times(pole, asked[power]));
                }
                asked[0] = Numbers.minus(0, Numbers.times(pole, asked[0]));
            }
        }
    }

    /** The polynomial of a system, below, and its numerator, above: coefficients by power. */
    private static final class Polynomials {
        final int[] below = new int[MOST_ORDER + 1];
        final int[] above = new int[MOST_ORDER + 1];
        private int[][] square = new int[MOST_ORDER][MOST_ORDER];
        private int[][] grown = new int[MOST_ORDER][MOST_ORDER];
        private final int[] column = new int[MOST_ORDER];
        private int[] high = new int[MOST_ORDER + 1];
        private int[] low = new int[MOST_ORDER + 1];

        /** By Faddeev and Leverrier: the squares on the way are the coefficients of the adjugate. */
        void find(Plant plant) {
            int n = plant.n;
            below[n] = 1;
            above[n] = 0;
            for (int i = 0; i < n; i++) {
                Rows.fill(n, square[i], 0);
                square[i][i] = 1;
            }
            for (int turn = 1; turn <= n; turn++) {
                Rows.squareByColumn(n, square, plant.column, column);
                above[n - turn] = Rows.product(n, plant.row, column);
                Rows.squareBySquare(n, plant.square, square, grown);
                int coefficient = Numbers.quotient(Numbers.minus(0, trace(n, grown)), turn);
                below[n - turn] = coefficient;
                addToDiagonal(n, grown, coefficient);
                int[][] kept = square;
                square = grown;
                grown = kept;
            }
        }

        private static int trace(int n, int[][] of) {
            int sum = 0;
            for (int i = 0; i < n; i++) {
                sum = Numbers.plus(sum, of[i][i]);
            }
            return sum;
        }

        private static void addToDiagonal(int n, int[][] to, int value) {
            for (int i = 0; i < n; i++) {
                to[i][i] = Numbers.plus(to[i][i], value);
            }
        }

        /** The power of the greatest polynomial that divides both, by Euclid. */
        int commonDegree(int n) {
            Rows.copy(n + 1, below, high);
            Rows.copy(n + 1, above, low);
            int highDegree = n;
            int lowDegree = degree(low, n - 1);
            for (int turn = 0; turn < MOST_ORDER && lowDegree >= 0; turn++) {
                takeRest(highDegree, lowDegree);
                int restDegree = degree(high, lowDegree - 1);
                int[] rest = high;
                high = low;
                low = rest;
                highDegree = lowDegree;
                lowDegree = restDegree;
            }
            return highDegree;
        }

        /** The high one becomes what is left of it by the low one. */
        private void takeRest(int highDegree, int lowDegree) {
            int part = Numbers.quotient(1, low[lowDegree]);
            for (int shift = highDegree - lowDegree; shift >= 0; shift--) {
                int factor = Numbers.times(part, high[lowDegree + shift]);
                for (int i = 0; i <= lowDegree; i++) {
                    high[i + shift] = Numbers.minus(high[i + shift], Numbers.times(factor, low[i]));
                }
            }
        }

        /** The highest power, from the most one down, whose coefficient is not 0; -1 if there is none. */
        private static int degree(int[] coefficients, int most) {
            int power = most;
            while (power >= 0 && coefficients[power] == 0) {
                power--;
            }
            return power;
        }
    }

    /** What a system answers: its numbers h, and its outputs. */
    private static final class Answers {
        final int[] h = new int[LAST_STEP + 1];
        private final int[] state = new int[MOST_ORDER];
        private final int[] next = new int[MOST_ORDER];
        private final Equations equations = new Equations();

        void findNumbers(Plant plant, int last) {
            int n = plant.n;
            h[0] = plant.through;
            Rows.copy(n, plant.column, state);
            for (int k = 1; k <= last; k++) {
                h[k] = Rows.product(n, plant.row, state);
                Rows.squareByColumn(n, plant.square, state, next);
                Rows.copy(n, next, state);
            }
        }

        int byState(Plant plant, Typed inputs, int step) {
            int n = plant.n;
            Rows.fill(n, state, 0);
            for (int i = 0; i < step; i++) {
                int input = inputAt(inputs, i);
                Rows.squareByColumn(n, plant.square, state, next);
                for (int j = 0; j < n; j++) {
                    state[j] = Numbers.plus(next[j], Numbers.times(plant.column[j], input));
                }
            }
            int straight = Numbers.times(plant.through, inputAt(inputs, step));
            return Numbers.plus(Rows.product(n, plant.row, state), straight);
        }

        int byNumbers(Plant plant, Typed inputs, int step) {
            findNumbers(plant, step);
            int sum = 0;
            for (int i = 0; i <= step; i++) {
                sum = Numbers.plus(sum, Numbers.times(h[step - i], inputAt(inputs, i)));
            }
            return sum;
        }

        private static int inputAt(Typed inputs, int step) {
            return step < inputs.count ? inputs.values[step] : 0;
        }

        /** The rank of the square with the number h of (i and j and 1) in row i and column j. */
        int rankOfNumbers(Plant plant) {
            int n = plant.n;
            findNumbers(plant, 2 * n - 1);
            for (int i = 0; i < n; i++) {
                for (int j = 0; j < n; j++) {
                    next[j] = h[i + j + 1];
                }
                equations.put(n, i, next, 0);
            }
            return equations.solve(n);
        }
    }

    /** Steps of Riccati back from the end, and what they cost for the state of all 1. */
    private static final class StepsBack {
        private final int[][] p = new int[MOST_ORDER][MOST_ORDER];
        private final int[][] pa = new int[MOST_ORDER][MOST_ORDER];
        private final int[][] rowsK = new int[MOST_STEPS_BACK][MOST_ORDER];
        private final int[] pb = new int[MOST_ORDER];
        private final int[] apb = new int[MOST_ORDER];
        private final int[] state = new int[MOST_ORDER];
        private final int[] next = new int[MOST_ORDER];

        /** Finds P and each row K. False if some m is 0. */
        boolean find(Plant plant, int q, int r, int steps) {
            beginAtEnd(plant, q);
            for (int step = 0; step < steps; step++) {
                Rows.squareByColumn(plant.n, p, plant.column, pb);
                int m = Numbers.plus(r, Rows.product(plant.n, plant.column, pb));
                if (m == 0) {
                    return false;
                }
                stepBack(plant, q, m, rowsK[step]);
            }
            return true;
        }

        private void beginAtEnd(Plant plant, int q) {
            for (int i = 0; i < plant.n; i++) {
                for (int j = 0; j < plant.n; j++) {
                    p[i][j] = Numbers.times(q, Numbers.times(plant.row[i], plant.row[j]));
                }
            }
        }

        /** P b stands already; m is not 0. */
        private void stepBack(Plant plant, int q, int m, int[] k) {
            int n = plant.n;
            Rows.squareBySquare(n, p, plant.square, pa);
            Rows.rowBySquare(n, pb, plant.square, apb);
            int part = Numbers.quotient(1, m);
            Rows.rowBySquare(n, plant.column, pa, k);
            for (int j = 0; j < n; j++) {
                k[j] = Numbers.times(part, k[j]);
            }
            beginAtEnd(plant, q);
            for (int i = 0; i < n; i++) {
                for (int j = 0; j < n; j++) {
                    int away = Numbers.times(apb[i], k[j]);
                    p[i][j] = Numbers.minus(Numbers.plus(p[i][j], turnedEntry(n, plant.square, i, j)), away);
                }
            }
        }

        /** The number of A turned round, times P A. */
        private int turnedEntry(int n, int[][] square, int i, int j) {
            int sum = 0;
            for (int inner = 0; inner < n; inner++) {
                sum = Numbers.plus(sum, Numbers.times(square[inner][i], pa[inner][j]));
            }
            return sum;
        }

        int costByEnd(int n) {
            int sum = 0;
            for (int i = 0; i < n; i++) {
                for (int j = 0; j < n; j++) {
                    sum = Numbers.plus(sum, p[i][j]);
                }
            }
            return sum;
        }

        int costByGoing(Plant plant, int q, int r, int steps) {
            int n = plant.n;
            Rows.fill(n, state, 1);
            int sum = 0;
            for (int step = steps - 1; step >= 0; step--) {
                int input = Numbers.minus(0, Rows.product(n, rowsK[step], state));
                sum = Numbers.plus(sum, costHere(plant, q));
                sum = Numbers.plus(sum, Numbers.times(r, Numbers.times(input, input)));
                Rows.squareByColumn(n, plant.square, state, next);
                for (int j = 0; j < n; j++) {
                    state[j] = Numbers.plus(next[j], Numbers.times(plant.column[j], input));
                }
            }
            return Numbers.plus(sum, costHere(plant, q));
        }

        private int costHere(Plant plant, int q) {
            int seen = Rows.product(plant.n, plant.row, state);
            return Numbers.times(q, Numbers.times(seen, seen));
        }
    }
}
