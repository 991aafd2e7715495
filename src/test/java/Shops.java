import java.util.Arrays;
import java.util.function.Supplier;
import java.util.function.ToIntFunction;

/** What the tests have in common: workshops with something in them, and ways to look at all that is in one. */
class Shops {
    static final Class<IndexOutOfBoundsException> NO_PLACE = IndexOutOfBoundsException.class;
    static final Class<IllegalArgumentException> BAD_ARGUMENT = IllegalArgumentException.class;
    static final Class<IllegalStateException> BAD_STATE = IllegalStateException.class;
    static final int SQUARE = PoleShop.SQUARE, COLUMN = PoleShop.COLUMN, ROW = PoleShop.ROW,
            THROUGH = PoleShop.THROUGH;
    static final int LOW = Integer.MIN_VALUE, HIGH = Integer.MAX_VALUE;

    static final Check CHECK = new Check();

    Shops() {
    }

    // ---- checks

    static void answers(String what, int due, Check.Call call) {
        CHECK.answers(what, due, call);
    }

    static void refuses(String what, Class<? extends RuntimeException> due, Check.Call call) {
        CHECK.refuses(what, due, call);
    }

    /** Refused as is due, and later calls answer as if it had not been tried. */
    static void refused(String what, Class<? extends RuntimeException> due, Supplier<PoleShop> made,
            ToIntFunction<PoleShop> call) {
        PoleShop shop = made.get();
        refuses(what, due, () -> call.applyAsInt(shop));
        CHECK.same(what + ", later calls", later(made.get()), later(shop));
    }

    /** Answered as is due, and later calls answer as if it had not been asked. */
    static void asked(String what, int due, Supplier<PoleShop> made, ToIntFunction<PoleShop> call) {
        PoleShop shop = made.get();
        answers(what, remainder(due), () -> call.applyAsInt(shop));
        answers(what + ", asked again", remainder(due), () -> call.applyAsInt(shop));
        CHECK.same(what + ", later calls", later(made.get()), later(shop));
    }

    // ---- numbers

    static int remainder(int number) {
        return Math.floorMod(number, 10007);
    }

    /** The product of all (x less a pole), its coefficients by power. */
    static int[] product(int... poles) {
        int[] result = new int[poles.length + 1];
        result[0] = 1;
        for (int count = 0; count < poles.length; count++) {
            for (int power = count + 1; power > 0; power--) {
                result[power] = remainder(result[power - 1] - remainder(poles[count]) * result[power]);
            }
            result[0] = remainder(-remainder(poles[count]) * result[0]);
        }
        return result;
    }

    // ---- workshops

    /** A system of the order, its numbers told as whole() tells them. */
    static int make(PoleShop shop, int n, int... numbers) {
        int system = shop.system(n);
        for (int i = 0; i < n; i++) {
            for (int j = 0; j < n; j++) {
                shop.set(system, SQUARE, i, j, numbers[i * n + j]);
            }
            shop.set(system, COLUMN, i, 0, numbers[n * n + i]);
            shop.set(system, ROW, 0, i, numbers[n * n + n + i]);
        }
        shop.set(system, THROUGH, 0, 0, numbers[n * n + 2 * n]);
        return system;
    }

    /** A workshop whose system 0 has A 1 2, 3 4, b 1 0, c 0 1 and d 0. */
    static PoleShop example() {
        PoleShop shop = new PoleShop();
        make(shop, 2, 1, 2, 3, 4, 1, 0, 0, 1, 0);
        return shop;
    }

    /** A system of order 1 to 8, whose numbers are of no kind, that can be steered and seen. The last one made is it. */
    static int dense(PoleShop shop, int n) {
        if (n > 4) {
            return shop.join(dense(shop, 4), dense(shop, n - 4), true);
        }
        int[] numbers = new int[n * n + 2 * n + 1];
        int number = 50 + n;
        for (int i = 0; i < numbers.length; i++) {
            number = (number * number + 7) % 10007;
            numbers[i] = number;
        }
        return make(shop, n, numbers);
    }

    /** A chain of delays, of order 1 to 8: what goes in comes out n steps later. The last one made is it. */
    static int delays(PoleShop shop, int n) {
        if (n > 4) {
            int rest = delays(shop, n - 4);
            return shop.join(delays(shop, 4), rest, true);
        }
        int system = shop.system(n);
        for (int i = 1; i < n; i++) {
            shop.set(system, SQUARE, i, i - 1, 1);
        }
        shop.set(system, COLUMN, 0, 0, 1);
        shop.set(system, ROW, 0, n - 1, 1);
        return system;
    }

    /** A workshop whose system 1 is a chain of 8 delays, and 0 one of 4. */
    static PoleShop chain() {
        PoleShop shop = new PoleShop();
        int four = delays(shop, 4);
        shop.join(four, four, true);
        return shop;
    }

    /**
     * Something of each kind: 0 is a chain of 4 delays, 1 one of 8, 2 has d 1 and else what comes from
     * no input, 3 is that of example(); there are four poles and three inputs.
     */
    static PoleShop busy() {
        PoleShop shop = chain();
        make(shop, 1, 3, 0, 0, 1);
        make(shop, 2, 1, 2, 3, 4, 1, 0, 0, 1, 0);
        return withInputs(withPoles(shop, 1, 2, 3, 4), 5, 6, 7);
    }

    static PoleShop withPoles(PoleShop shop, int... poles) {
        for (int pole : poles) {
            shop.pole(pole);
        }
        return shop;
    }

    static PoleShop withInputs(PoleShop shop, int... inputs) {
        for (int input : inputs) {
            shop.input(input);
        }
        return shop;
    }

    /** Systems of order 1 until there are 12. */
    static PoleShop full(PoleShop shop) {
        return filled(shop, 12);
    }

    /** Systems of order 1 until there are so many. */
    static PoleShop filled(PoleShop shop, int count) {
        int last = shop.system(1);
        while (last < count - 1) {
            last = shop.system(1);
        }
        return shop;
    }

    // ---- what is in a workshop

    /** All numbers of a system in a row: the square by rows, the column, the row, and d. */
    static String whole(PoleShop shop, int system) {
        int n = shop.order(system);
        int[] all = new int[n * n + 2 * n + 1];
        for (int i = 0; i < n; i++) {
            for (int j = 0; j < n; j++) {
                all[i * n + j] = shop.at(system, SQUARE, i, j);
            }
            all[n * n + i] = shop.at(system, COLUMN, i, 0);
            all[n * n + n + i] = shop.at(system, ROW, 0, i);
        }
        all[n * n + 2 * n] = shop.at(system, THROUGH, 0, 0);
        return Arrays.toString(all);
    }

    static void whole(String what, PoleShop shop, int system, int... due) {
        int[] remainders = new int[due.length];
        for (int i = 0; i < due.length; i++) {
            remainders[i] = remainder(due[i]);
        }
        CHECK.same(what, Arrays.toString(remainders), whole(shop, system));
    }

    static void polynomial(String what, PoleShop shop, int system, boolean isNumerator, int... due) {
        for (int power = 0; power < due.length; power++) {
            int p = power;
            answers(what + " at " + p, remainder(due[p]), () -> shop.polynomial(system, p, isNumerator));
        }
    }

    static String outcome(Check.Call call) {
        try {
            return Integer.toString(call.run());
        } catch (RuntimeException e) {
            return e.getClass().getSimpleName();
        }
    }

    /**
     * What a workshop answers from here on, some 250 calls: all systems, all inputs, all poles (by the
     * chain of 8 delays of busy()), and how many more of each it takes. It is used up by this.
     */
    static String later(PoleShop shop) {
        StringBuilder all = new StringBuilder();
        for (int system = 0; system < 12 && !outcome(orderOf(shop, system)).startsWith("I"); system++) {
            all.append(whole(shop, system)).append('\n');
        }
        for (int step = 0; step <= 20; step++) {
            int s = step;
            all.append(outcome(() -> shop.output(2, s))).append(' ');
        }
        untilRefused(all, () -> shop.input(90));
        untilRefused(all, () -> shop.pole(91));
        for (int place = 0; place < 8; place++) {
            int p = place;
            all.append(outcome(() -> shop.gain(1, p))).append(' ');
            all.append(outcome(() -> shop.observer(1, p))).append(' ');
        }
        all.append(outcome(() -> shop.gain(0, 1))).append('\n');
        untilRefused(all, () -> shop.system(1));
        return all.append(outcome(shop::clear)).toString();
    }

    private static Check.Call orderOf(PoleShop shop, int system) {
        return () -> shop.order(system);
    }

    private static void untilRefused(StringBuilder all, Check.Call call) {
        String last = "";
        for (int count = 0; count < 21 && !last.startsWith("I"); count++) {
            last = outcome(call);
            all.append(last).append(' ');
        }
        all.append('\n');
    }
}
