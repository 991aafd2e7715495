import java.util.Arrays;

/**
 * The promises, one method each: ordinary inputs, the edges that the document names, and wrong inputs.
 * The numbers that are due are reckoned by hand; most belong to the system of example().
 */
public final class PromiseTest extends Shops {
    private PromiseTest() {
    }

    public static void main(String[] args) {
        constants();
        promise1NewObject();
        promise2System();
        promise3Set();
        promise4Join();
        promise4JoinSelfAndRefusals();
        promise5Loop();
        promise6Pole();
        promise7Input();
        promise8Clear();
        promise9Placed();
        promise10Joined();
        promise10JoinedOfAChain();
        promise10JoinedRefusals();
        promise11At();
        promise12Order();
        promise13Polynomial();
        promise14Rank();
        promise15Number();
        promise16And17Output();
        promise18And19Gain();
        promise20Observer();
        promise20ObserverOf8();
        promise21And22Cost();
        promise21And22CostRefusals();
        promise23And24Least();
        order8();
        eachSystemByItself();
        questionsChangeNothing();
        CHECK.end("PromiseTest");
    }

    // ---- promises

    private static void constants() {
        CHECK.same("MODULUS", "10007", Integer.toString(PoleShop.MODULUS));
        CHECK.same("SQUARE to THROUGH", "0 1 2 3", SQUARE + " " + COLUMN + " " + ROW + " " + THROUGH);
    }

    private static void promise1NewObject() {
        PoleShop shop = new PoleShop();
        refuses("1: a new object has no system", NO_PLACE, () -> shop.order(0));
        answers("1: a new object has no poles and inputs", 0, shop::clear);
        answers("1: its first pole", 1, () -> shop.pole(3));
        answers("1: its first input", 1, () -> shop.input(3));
        PoleShop other = new PoleShop();
        answers("1: another object is another workshop", 0, other::clear);
    }

    private static void promise2System() {
        PoleShop shop = new PoleShop();
        refuses("2: system(0)", BAD_ARGUMENT, () -> shop.system(0));
        refuses("2: system(-1)", BAD_ARGUMENT, () -> shop.system(-1));
        refuses("2: system(5)", BAD_ARGUMENT, () -> shop.system(5));
        refuses("2: system(lowest)", BAD_ARGUMENT, () -> shop.system(LOW));
        refuses("2: system(highest)", BAD_ARGUMENT, () -> shop.system(HIGH));
        answers("2: what was refused made none", 0, () -> shop.system(1));
        for (int order = 2; order <= 4; order++) {
            int n = order;
            answers("2: system(" + n + ")", n - 1, () -> shop.system(n));
            answers("2: its order", n, () -> shop.order(n - 1));
            CHECK.same("2: all of it 0", Arrays.toString(new int[n * n + 2 * n + 1]), whole(shop, n - 1));
        }
        for (int number = 4; number < 12; number++) {
            answers("2: system(3), number " + number, number, () -> shop.system(3));
        }
        refuses("2: the thirteenth", BAD_STATE, () -> shop.system(1));
        refuses("2: out of range goes first", BAD_ARGUMENT, () -> shop.system(5));
        refuses("2: the thirteenth is none", NO_PLACE, () -> shop.order(12));
    }

    private static void promise3Set() {
        PoleShop shop = new PoleShop();
        shop.system(1);
        shop.system(2);
        answers("3: set of the square", 0, () -> shop.set(1, SQUARE, 0, 1, 7));
        answers("3: set again", 7, () -> shop.set(1, SQUARE, 0, 1, -1));
        answers("3: what is below 0 is a remainder", 10006, () -> shop.set(1, SQUARE, 0, 1, 8));
        answers("3: set of the column, any column", 0, () -> shop.set(1, COLUMN, 1, HIGH, 10006));
        answers("3: set of the row, any row", 0, () -> shop.set(1, ROW, LOW, 1, -10006));
        answers("3: set of d, any row and column", 0, () -> shop.set(1, THROUGH, -5, 99, 4));
        answers("3: d before", 4, () -> shop.set(1, THROUGH, 0, 0, 5));
        whole("3: what was set stands", shop, 1, 0, 8, 0, 0, 0, 10006, 0, 1, 5);
        whole("3: the other system is as it was", shop, 0, 0, 0, 0, 0);
        for (int system : new int[] {-1, 2, 12, LOW, HIGH}) {
            refuses("3: system " + system, NO_PLACE, () -> shop.set(system, SQUARE, 0, 0, 1));
        }
        for (int what : new int[] {-1, 4, LOW, HIGH}) {
            refuses("3: what " + what, NO_PLACE, () -> shop.set(1, what, 0, 0, 1));
        }
        for (int place : new int[] {-1, 2, 8, LOW, HIGH}) {
            refuses("3: square's row " + place, NO_PLACE, () -> shop.set(1, SQUARE, place, 0, 1));
            refuses("3: square's column " + place, NO_PLACE, () -> shop.set(1, SQUARE, 0, place, 1));
            refuses("3: column's row " + place, NO_PLACE, () -> shop.set(1, COLUMN, place, 0, 1));
            refuses("3: row's column " + place, NO_PLACE, () -> shop.set(1, ROW, 0, place, 1));
        }
        for (int value : new int[] {10007, -10007, LOW, HIGH}) {
            refuses("3: value " + value, BAD_ARGUMENT, () -> shop.set(1, SQUARE, 0, 0, value));
            refuses("3: no such system goes first", NO_PLACE, () -> shop.set(2, SQUARE, 0, 0, value));
            refuses("3: no such what goes first", NO_PLACE, () -> shop.set(1, 4, 0, 0, value));
            refuses("3: no such row goes first", NO_PLACE, () -> shop.set(1, COLUMN, 2, 0, value));
            refuses("3: value for d " + value, BAD_ARGUMENT, () -> shop.set(1, THROUGH, 9, 9, value));
        }
        whole("3: what was refused set nothing", shop, 1, 0, 8, 0, 0, 0, 10006, 0, 1, 5);
    }

    private static void promise4Join() {
        PoleShop shop = new PoleShop();
        make(shop, 1, 3, 2, 5, 4);
        make(shop, 2, 1, 2, 3, 4, 6, -1, 8, 9, 7);
        answers("4: in series", 2, () -> shop.join(0, 1, true));
        whole("4: in series", shop, 2,
                3, 0, 0,
                30, 1, 2,
                -5, 3, 4,
                2, 24, -4,
                35, 8, 9,
                28);
        answers("4: in series, the other way", 3, () -> shop.join(1, 0, true));
        whole("4: in series, the other way", shop, 3,
                1, 2, 0,
                3, 4, 0,
                16, 18, 3,
                6, -1, 14,
                32, 36, 5,
                28);
        answers("4: side by side", 4, () -> shop.join(0, 1, false));
        whole("4: side by side", shop, 4,
                3, 0, 0,
                0, 1, 2,
                0, 3, 4,
                2, 6, -1,
                5, 8, 9,
                11);
        shop.set(0, THROUGH, 0, 0, 10006);
        shop.join(0, 1, false);
        answers("4: d is a remainder", 6, () -> shop.at(5, THROUGH, 0, 0));
    }

    private static void promise4JoinSelfAndRefusals() {
        PoleShop shop = new PoleShop();
        make(shop, 1, 3, 2, 5, 4);
        answers("4: with itself in series", 1, () -> shop.join(0, 0, true));
        whole("4: with itself in series", shop, 1, 3, 0, 10, 3, 2, 8, 20, 5, 16);
        answers("4: with itself side by side", 2, () -> shop.join(0, 0, false));
        whole("4: with itself side by side", shop, 2, 3, 0, 0, 3, 2, 2, 5, 5, 8);
        shop.system(4);
        answers("4: order 8", 4, () -> shop.join(3, 3, true));
        answers("4: order 8", 8, () -> shop.order(4));
        refuses("4: order 9", BAD_STATE, () -> shop.join(4, 0, true));
        refuses("4: order 9, the other way", BAD_STATE, () -> shop.join(0, 4, false));
        refuses("4: order 16", BAD_STATE, () -> shop.join(4, 4, false));
        for (int system : new int[] {-1, 5, LOW, HIGH}) {
            refuses("4: one " + system, NO_PLACE, () -> shop.join(system, 0, true));
            refuses("4: other " + system, NO_PLACE, () -> shop.join(0, system, false));
            refuses("4: no such system goes first", NO_PLACE, () -> shop.join(4, system, false));
        }
        answers("4: what was refused made none", 5, () -> shop.join(0, 0, true));
        full(shop);
        refuses("4: there are 12", BAD_STATE, () -> shop.join(0, 0, true));
        refuses("4: there are 12, side by side", BAD_STATE, () -> shop.join(0, 0, false));
        refuses("4: there are 12, no such system goes first", NO_PLACE, () -> shop.join(0, 12, true));
    }

    private static void promise5Loop() {
        PoleShop shop = new PoleShop();
        make(shop, 2, 1, 2, 3, 4, 6, 12, 9, 3, 1);
        answers("5: loop", 1, () -> shop.loop(0, 2));
        whole("5: s is 3", shop, 1, -35, -10, -69, -20, 2, 4, 3, 1, 3336);
        answers("5: loop with 0", 2, () -> shop.loop(0, 0));
        whole("5: with 0 it is the same", shop, 2, 1, 2, 3, 4, 6, 12, 9, 3, 1);
        answers("5: loop below 0", 3, () -> shop.loop(0, -2));
        whole("5: s is -1", shop, 3, -107, -34, -213, -68, -6, -12, -9, -3, -1);
        refuses("5: s is 0", BAD_STATE, () -> shop.loop(0, -1));
        refuses("5: s is 0 as a remainder", BAD_STATE, () -> shop.loop(0, 10006));
        for (int system : new int[] {-1, 4, LOW, HIGH}) {
            refuses("5: system " + system, NO_PLACE, () -> shop.loop(system, 1));
            refuses("5: no such system goes first", NO_PLACE, () -> shop.loop(system, 10007));
        }
        for (int gain : new int[] {10007, -10007, LOW, HIGH}) {
            refuses("5: gain " + gain, BAD_ARGUMENT, () -> shop.loop(0, gain));
        }
        answers("5: what was refused made none", 4, () -> shop.loop(0, -10006));
        answers("5: -10006 is 1", 10007 - 26, () -> shop.at(4, SQUARE, 0, 0));
        full(shop);
        refuses("5: there are 12", BAD_STATE, () -> shop.loop(0, 1));
        refuses("5: there are 12, gain goes first", BAD_ARGUMENT, () -> shop.loop(0, 10007));
        refuses("5: there are 12, no such system goes first", NO_PLACE, () -> shop.loop(12, 1));
    }

    private static void promise6Pole() {
        PoleShop shop = new PoleShop();
        for (int value : new int[] {10007, -10007, LOW, HIGH}) {
            refuses("6: pole " + value, BAD_ARGUMENT, () -> shop.pole(value));
        }
        for (int count = 1; count <= 16; count++) {
            int value = count % 2 == 0 ? 10006 : -10006;
            answers("6: pole " + count, count, () -> shop.pole(value));
        }
        refuses("6: the seventeenth", BAD_STATE, () -> shop.pole(1));
        refuses("6: out of range goes first", BAD_ARGUMENT, () -> shop.pole(10007));
        answers("6: inputs are counted by themselves", 1, () -> shop.input(0));
        answers("6: what was refused is none", 17, shop::clear);
        make(shop, 1, 0, 1, 1, 0);
        shop.pole(-3);
        answers("6: what is below 0 is a remainder", 3, () -> shop.gain(0, 0));
    }

    private static void promise7Input() {
        PoleShop shop = new PoleShop();
        for (int value : new int[] {10007, -10007, LOW, HIGH}) {
            refuses("7: input " + value, BAD_ARGUMENT, () -> shop.input(value));
        }
        for (int count = 1; count <= 20; count++) {
            int value = count % 2 == 0 ? 10006 : -10006;
            answers("7: input " + count, count, () -> shop.input(value));
        }
        refuses("7: the twenty-first", BAD_STATE, () -> shop.input(1));
        refuses("7: out of range goes first", BAD_ARGUMENT, () -> shop.input(-10007));
        make(shop, 1, 0, 0, 0, 1);
        answers("7: the first one", 1, () -> shop.output(0, 0));
        answers("7: the last one", 10006, () -> shop.output(0, 19));
        answers("7: poles are counted by themselves", 1, () -> shop.pole(0));
        answers("7: what was refused is none", 21, shop::clear);
    }

    private static void promise8Clear() {
        PoleShop shop = withInputs(withPoles(example(), 1, 2, 3, 4), 5, 6, 7);
        answers("8: clear", 7, shop::clear);
        answers("8: clear again", 0, shop::clear);
        refuses("8: no poles are left", BAD_STATE, () -> shop.gain(0, 0));
        answers("8: no inputs are left", 0, () -> shop.output(0, 3));
        whole("8: systems are", shop, 0, 1, 2, 3, 4, 1, 0, 0, 1, 0);
        answers("8: poles are typed anew", 1, () -> shop.pole(1));
        shop.pole(2);
        answers("8: and count", 4, () -> shop.gain(0, 1));
        answers("8: inputs are typed anew", 1, () -> shop.input(1));
        answers("8: and count", 3, () -> shop.output(0, 2));
        answers("8: clear of both", 3, shop::clear);
    }

    private static void promise9Placed() {
        PoleShop shop = example();
        shop.set(0, THROUGH, 0, 0, 6);
        refuses("9: no poles", BAD_STATE, () -> shop.placed(0));
        shop.pole(1);
        refuses("9: one pole", BAD_STATE, () -> shop.placed(0));
        shop.pole(2);
        answers("9: placed", 1, () -> shop.placed(0));
        whole("9: placed", shop, 1, -1, -2, 3, 4, 1, 0, 0, 1, 6);
        answers("9: its polynomial", 2, () -> shop.polynomial(1, 0, false));
        answers("9: its polynomial", 10004, () -> shop.polynomial(1, 1, false));
        shop.pole(999);
        answers("9: more poles do not matter", 2, () -> shop.placed(0));
        whole("9: more poles do not matter", shop, 2, -1, -2, 3, 4, 1, 0, 0, 1, 6);
        make(shop, 2, 1, 0, 0, 2, 1, 0, 1, 1, 0);
        refuses("9: it cannot be steered", BAD_STATE, () -> shop.placed(3));
        for (int system : new int[] {-1, 4, LOW, HIGH}) {
            refuses("9: system " + system, NO_PLACE, () -> shop.placed(system));
        }
        make(shop, 2, 1, 2, 3, 4, 1, 0, 0, 0, 0);
        answers("9: it need not be seen, and what was refused made none", 5, () -> shop.placed(4));
        full(shop);
        refuses("9: there are 12", BAD_STATE, () -> shop.placed(0));
        refuses("9: there are 12, no such system goes first", NO_PLACE, () -> shop.placed(12));
    }

    private static void promise10Joined() {
        PoleShop shop = withPoles(example(), 1, 2, 3);
        refuses("10: three poles", BAD_STATE, () -> shop.joined(0));
        shop.pole(4);
        answers("10: joined", 1, () -> shop.joined(0));
        whole("10: joined", shop, 1,
                1, 2, -2, -4,
                3, 4, 0, 0,
                0, 4, -1, -6,
                0, -2, 3, 6,
                1, 0, 1, 0,
                0, 1, 0, 0,
                0);
        int[] product = {24, -50, 35, -10, 1};
        for (int power = 0; power <= 4; power++) {
            int p = power;
            answers("10: its poles are all four", Math.floorMod(product[p], 10007),
                    () -> shop.polynomial(1, p, false));
        }
        answers("10: its least order is that of the system", 2, () -> shop.least(1));
    }

    private static void promise10JoinedOfAChain() {
        PoleShop shop = withPoles(new PoleShop(), 1, 2, 3, 4);
        make(shop, 2, 0, 1, 0, 0, 0, 1, 1, 0, 0);
        answers("10: joined of a chain", 1, () -> shop.joined(0));
        whole("10: joined of a chain", shop, 1,
                0, 1, 0, 0,
                0, 0, -2, 3,
                -7, 0, 7, 1,
                12, 0, -14, 3,
                0, 1, 0, 1,
                1, 0, 0, 0,
                0);
    }

    private static void promise10JoinedRefusals() {
        PoleShop shop = withPoles(new PoleShop(), 1, 2, 3, 4, 5, 6, 7, 8, 9, 10);
        make(shop, 4, 0, 1, 0, 0, 0, 0, 1, 0, 0, 0, 0, 1, 5, 0, 0, 2, 0, 0, 0, 1, 1, 0, 0, 0, 0);
        answers("10: of order 4", 1, () -> shop.joined(0));
        answers("10: of order 8", 8, () -> shop.order(1));
        make(shop, 1, 2, 1, 1, 0);
        shop.join(0, 2, true);
        refuses("10: of order 5, all else well", BAD_STATE, () -> shop.joined(3));
        shop.set(2, THROUGH, 0, 0, 1);
        refuses("10: d is not 0", BAD_STATE, () -> shop.joined(2));
        shop.set(2, THROUGH, 0, 0, 0);
        shop.set(2, COLUMN, 0, 0, 0);
        refuses("10: it cannot be steered", BAD_STATE, () -> shop.joined(2));
        shop.set(2, COLUMN, 0, 0, 1);
        shop.set(2, ROW, 0, 0, 0);
        refuses("10: it cannot be seen", BAD_STATE, () -> shop.joined(2));
        shop.set(2, ROW, 0, 0, 1);
        answers("10: both, and what was refused made none", 4, () -> shop.joined(2));
        whole("10: of order 1", shop, 4, 2, -1, 0, 1, 1, 1, 1, 0, 0);
        for (int system : new int[] {-1, 5, LOW, HIGH}) {
            refuses("10: system " + system, NO_PLACE, () -> shop.joined(system));
        }
        full(shop);
        refuses("10: there are 12", BAD_STATE, () -> shop.joined(2));
        refuses("10: there are 12, no such system goes first", NO_PLACE, () -> shop.joined(12));
    }

    private static void promise11At() {
        PoleShop shop = new PoleShop();
        make(shop, 1, 50, 51, 52, 53);
        make(shop, 2, 11, 12, 13, 14, 15, 16, 17, 18, 19);
        answers("11: square", 12, () -> shop.at(1, SQUARE, 0, 1));
        answers("11: square", 13, () -> shop.at(1, SQUARE, 1, 0));
        answers("11: column, any column", 16, () -> shop.at(1, COLUMN, 1, LOW));
        answers("11: row, any row", 17, () -> shop.at(1, ROW, HIGH, 0));
        answers("11: d, any row and column", 19, () -> shop.at(1, THROUGH, -1, 2));
        answers("11: the other system", 50, () -> shop.at(0, SQUARE, 0, 0));
        for (int system : new int[] {-1, 2, 12, LOW, HIGH}) {
            refuses("11: system " + system, NO_PLACE, () -> shop.at(system, THROUGH, 0, 0));
        }
        for (int what : new int[] {-1, 4, LOW, HIGH}) {
            refuses("11: what " + what, NO_PLACE, () -> shop.at(1, what, 0, 0));
        }
        for (int place : new int[] {-1, 2, 8, LOW, HIGH}) {
            refuses("11: square's row " + place, NO_PLACE, () -> shop.at(1, SQUARE, place, 0));
            refuses("11: square's column " + place, NO_PLACE, () -> shop.at(1, SQUARE, 0, place));
            refuses("11: column's row " + place, NO_PLACE, () -> shop.at(1, COLUMN, place, 0));
            refuses("11: row's column " + place, NO_PLACE, () -> shop.at(1, ROW, 0, place));
        }
    }

    private static void promise12Order() {
        PoleShop shop = example();
        shop.system(3);
        shop.join(0, 1, true);
        answers("12: order", 2, () -> shop.order(0));
        answers("12: order", 3, () -> shop.order(1));
        answers("12: order of two", 5, () -> shop.order(2));
        for (int system : new int[] {-1, 3, 12, LOW, HIGH}) {
            refuses("12: system " + system, NO_PLACE, () -> shop.order(system));
        }
    }

    private static void promise13Polynomial() {
        PoleShop shop = example();
        polynomial("13: polynomial", shop, 0, false, -2, -5, 1);
        polynomial("13: numerator", shop, 0, true, 3, 0, 0);
        shop.set(0, THROUGH, 0, 0, 9);
        polynomial("13: numerator, d does not matter", shop, 0, true, 3, 0, 0);
        make(shop, 3, 2, 1, 0, 0, 3, 1, 0, 0, 4, 1, 1, 1, 1, 2, 3, 0);
        polynomial("13: of a triangle", shop, 1, false, -24, 26, -9, 1);
        polynomial("13: its numerator", shop, 1, true, 39, -31, 6, 0);
        make(shop, 1, -7, 3, 4, 0);
        polynomial("13: of order 1", shop, 2, false, 7, 1);
        polynomial("13: its numerator", shop, 2, true, 12, 0);
        shop.system(4);
        shop.join(3, 3, true);
        polynomial("13: of 0, order 8", shop, 4, false, 0, 0, 0, 0, 0, 0, 0, 0, 1);
        polynomial("13: its numerator", shop, 4, true, 0, 0, 0, 0, 0, 0, 0, 0, 0);
        for (int power : new int[] {-1, 3, 8, 9, LOW, HIGH}) {
            refuses("13: power " + power, NO_PLACE, () -> shop.polynomial(0, power, false));
            refuses("13: numerator's power " + power, NO_PLACE, () -> shop.polynomial(0, power, true));
        }
        refuses("13: power 9 of order 8", NO_PLACE, () -> shop.polynomial(4, 9, false));
        for (int system : new int[] {-1, 5, LOW, HIGH}) {
            refuses("13: system " + system, NO_PLACE, () -> shop.polynomial(system, 0, false));
        }
    }

    private static void promise14Rank() {
        PoleShop shop = example();
        answers("14: it can be steered", 2, () -> shop.rank(0, false));
        answers("14: it can be seen", 2, () -> shop.rank(0, true));
        make(shop, 3, 1, 0, 0, 0, 2, 0, 0, 0, 3, 1, 0, 1, 0, 5, 0, 0);
        answers("14: two of three", 2, () -> shop.rank(1, false));
        answers("14: one of three is seen", 1, () -> shop.rank(1, true));
        make(shop, 4, 0, 1, 0, 0, 0, 0, 1, 0, 0, 0, 0, 1, 0, 0, 0, 0, 0, 0, 1, 0, 0, 0, 0, 1, 5);
        answers("14: a chain, steered in front of its end", 3, () -> shop.rank(2, false));
        answers("14: a chain, seen at its end", 1, () -> shop.rank(2, true));
        shop.system(4);
        answers("14: of 0", 0, () -> shop.rank(3, false));
        answers("14: of 0, seen", 0, () -> shop.rank(3, true));
        shop.join(2, 2, true);
        answers("14: of order 8", 3, () -> shop.rank(4, false));
        for (int system : new int[] {-1, 5, LOW, HIGH}) {
            refuses("14: system " + system, NO_PLACE, () -> shop.rank(system, false));
            refuses("14: system " + system, NO_PLACE, () -> shop.rank(system, true));
        }
    }

    private static void promise15Number() {
        PoleShop shop = example();
        shop.set(0, THROUGH, 0, 0, 44);
        int[] due = {44, 0, 3, 15, 81};
        for (int k = 0; k < due.length; k++) {
            int place = k;
            answers("15: h " + k, due[k], () -> shop.number(0, place));
        }
        make(shop, 1, 2, 3, 5, 0);
        answers("15: h 1", 15, () -> shop.number(1, 1));
        answers("15: h 14", 15 * 8192 % 10007, () -> shop.number(1, 14));
        make(shop, 1, 10006, 1, 1, 0);
        answers("15: h 39", 1, () -> shop.number(2, 39));
        answers("15: h 40", 10006, () -> shop.number(2, 40));
        for (int k : new int[] {-1, 41, LOW, HIGH}) {
            refuses("15: k " + k, BAD_ARGUMENT, () -> shop.number(0, k));
            refuses("15: no such system goes first", NO_PLACE, () -> shop.number(3, k));
        }
        for (int system : new int[] {-1, 3, LOW, HIGH}) {
            refuses("15: system " + system, NO_PLACE, () -> shop.number(system, 0));
        }
    }

    private interface Output {
        int of(PoleShop shop, int system, int step);
    }

    private static void promise16And17Output() {
        output("16: output", PoleShop::output);
        output("17: outputAnew", PoleShop::outputAnew);
    }

    private static void output(String what, Output output) {
        PoleShop shop = example();
        answers(what + " without inputs", 0, () -> output.of(shop, 0, 40));
        withInputs(shop, 1, 2, 5);
        int[] due = {0, 0, 3, 21, 126};
        for (int step = 0; step < due.length; step++) {
            int s = step;
            answers(what + " at " + s, due[s], () -> output.of(shop, 0, s));
        }
        shop.set(0, THROUGH, 0, 0, -4);
        int[] dueWithD = {10003, 9999, 3 - 20 + 10007, 21, 126};
        for (int step = 0; step < dueWithD.length; step++) {
            int s = step;
            answers(what + " with d at " + s, dueWithD[s], () -> output.of(shop, 0, s));
        }
        make(shop, 1, 1, 1, 1, 0);
        shop.clear();
        int sum = 0;
        for (int i = 1; i <= 20; i++) {
            shop.input(i * i);
            sum += i * i;
        }
        int all = sum;
        answers(what + " holds the sum of all but the last", all - 400, () -> output.of(shop, 1, 19));
        answers(what + " holds the sum", all, () -> output.of(shop, 1, 20));
        answers(what + " holds the sum on", all, () -> output.of(shop, 1, 40));
        for (int step : new int[] {-1, 41, LOW, HIGH}) {
            refuses(what + " at " + step, BAD_ARGUMENT, () -> output.of(shop, 0, step));
            refuses(what + ": no such system goes first", NO_PLACE, () -> output.of(shop, 2, step));
        }
        for (int system : new int[] {-1, 2, LOW, HIGH}) {
            refuses(what + " of " + system, NO_PLACE, () -> output.of(shop, system, 0));
        }
    }

    private static void promise18And19Gain() {
        gain("18: gain", PoleShop::gain);
        gain("19: gainAnew", PoleShop::gainAnew);
    }

    private static void gain(String what, Output gain) {
        PoleShop shop = example();
        refuses(what + " without poles", BAD_STATE, () -> gain.of(shop, 0, 0));
        shop.pole(1);
        refuses(what + " with one pole", BAD_STATE, () -> gain.of(shop, 0, 1));
        for (int place : new int[] {-1, 2, 8, LOW, HIGH}) {
            refuses(what + ": no such place goes first, " + place, NO_PLACE, () -> gain.of(shop, 0, place));
        }
        shop.pole(2);
        answers(what + " 0", 2, () -> gain.of(shop, 0, 0));
        answers(what + " 1", 4, () -> gain.of(shop, 0, 1));
        withPoles(shop, 77, 78);
        answers(what + " 1, more poles do not matter", 4, () -> gain.of(shop, 0, 1));
        refuses(what + " 2", NO_PLACE, () -> gain.of(shop, 0, 2));
        make(shop, 2, 1, 0, 0, 1, 1, 1, 1, 0, 0);
        refuses(what + " of one that cannot be steered", BAD_STATE, () -> gain.of(shop, 1, 0));
        make(shop, 4, 0, 1, 0, 0, 0, 0, 1, 0, 0, 0, 0, 1, 5, 0, 0, 2, 0, 0, 0, 1, 0, 0, 0, 0, 9);
        shop.clear();
        withPoles(shop, 1, -2, 3, -4);
        // x to the power 4 + 2 x^3 - 13 x^2 - 14 x + 24, more than x^4 - 2 x^3 - 5
        int[] due = {29, 9993, 9994, 4};
        for (int place = 0; place < 4; place++) {
            int p = place;
            answers(what + " of four, " + p, due[p], () -> gain.of(shop, 2, p));
        }
        make(shop, 1, 3, 2, 0, 0);
        answers(what + " of one", 1, () -> gain.of(shop, 3, 0));
        for (int system : new int[] {-1, 4, LOW, HIGH}) {
            refuses(what + " of " + system, NO_PLACE, () -> gain.of(shop, system, 0));
        }
    }

    private static void promise20Observer() {
        PoleShop shop = withPoles(example(), 1, 2, 3);
        refuses("20: three poles", BAD_STATE, () -> shop.observer(0, 0));
        for (int place : new int[] {-1, 2, 8, LOW, HIGH}) {
            refuses("20: no such place goes first, " + place, NO_PLACE, () -> shop.observer(0, place));
        }
        shop.pole(4);
        answers("20: observer 0", 4, () -> shop.observer(0, 0));
        answers("20: observer 1", 10005, () -> shop.observer(0, 1));
        shop.pole(5);
        answers("20: more poles do not matter", 4, () -> shop.observer(0, 0));
        refuses("20: place 2", NO_PLACE, () -> shop.observer(0, 2));
        shop.set(0, COLUMN, 0, 0, 0);
        answers("20: it need not be steered", 10005, () -> shop.observer(0, 1));
        shop.set(0, THROUGH, 0, 0, 3);
        answers("20: d may be any", 4, () -> shop.observer(0, 0));
        make(shop, 2, 1, 0, 0, 2, 1, 1, 0, 1, 0);
        refuses("20: it cannot be seen", BAD_STATE, () -> shop.observer(1, 0));
        make(shop, 3, 0, 0, 7, 1, 0, 0, 0, 1, 0, 0, 0, 0, 0, 0, 1, 0);
        shop.clear();
        withPoles(shop, 50, 51, 52, 1, 2, -3);
        // x^3 - 7 x + 6, more than x^3 - 7
        answers("20: of three, 0", 13, () -> shop.observer(2, 0));
        answers("20: of three, 1", 10000, () -> shop.observer(2, 1));
        answers("20: of three, 2", 0, () -> shop.observer(2, 2));
        for (int system : new int[] {-1, 3, LOW, HIGH}) {
            refuses("20: system " + system, NO_PLACE, () -> shop.observer(system, 0));
        }
    }

    private static void promise20ObserverOf8() {
        PoleShop shop = withPoles(chain(), 9, 9, 9, 9, 9, 9, 9, 9, 5, 0, 0, 0, 0, 0, 0);
        refuses("20: of order 8 with 15 poles", BAD_STATE, () -> shop.observer(1, 7));
        shop.pole(0);
        answers("20: of order 8, 7", 10002, () -> shop.observer(1, 7));
        answers("20: of order 8, 6", 0, () -> shop.observer(1, 6));
        refuses("20: of order 8, 8", NO_PLACE, () -> shop.observer(1, 8));
    }

    private interface Cost {
        int of(PoleShop shop, int system, int q, int r, int steps);
    }

    private static void promise21And22Cost() {
        cost("21: cost", PoleShop::cost);
        cost("22: costAnew", PoleShop::costAnew);
    }

    private static void cost(String what, Cost cost) {
        PoleShop shop = example();
        answers(what + " of no steps", 2, () -> cost.of(shop, 0, 2, 3, 0));
        answers(what + " of one", 100, () -> cost.of(shop, 0, 2, 3, 1));
        // P is 18 24, 24 34 after one step; then m is 21, and b times P A is 90 132
        answers(what + " of two", quotient(3438, 7), () -> cost.of(shop, 0, 2, 3, 2));
        shop.set(0, THROUGH, 0, 0, 5);
        answers(what + ": d does not matter", 100, () -> cost.of(shop, 0, 2, 3, 1));
        make(shop, 1, 2, 1, 3, 0);
        answers(what + " of one number, no steps", 9, () -> cost.of(shop, 1, 1, 0, 0));
        // with r 0 the state goes to 0 at once
        answers(what + " of one number, r 0", 9, () -> cost.of(shop, 1, 1, 0, 1));
        answers(what + " of one number, r 0", 9, () -> cost.of(shop, 1, 1, 0, 20));
        // m is 10, K is 18 by 10; 10 times P is 90 and 360, less 18 times 18
        answers(what + " of one number, one step", quotient(126, 10), () -> cost.of(shop, 1, 1, 1, 1));
        answers(what + " with q 0", 0, () -> cost.of(shop, 1, 0, 5, 20));
        answers(what + " with the highest q", 10007 - 9, () -> cost.of(shop, 1, 10006, 10006, 0));
    }

    /** By trying every number. */
    private static int quotient(int a, int b) {
        int result = 0;
        while (result * b % 10007 != a) {
            result++;
        }
        return result;
    }

    private static void promise21And22CostRefusals() {
        costRefusals("21: cost", PoleShop::cost);
        costRefusals("22: costAnew", PoleShop::costAnew);
    }

    private static void costRefusals(String what, Cost cost) {
        PoleShop shop = example();
        answers(what + ": m is 0 at the second step, not asked for", 100, () -> cost.of(shop, 0, 2, 9989, 1));
        refuses(what + ": m is 0 at the second step", BAD_STATE, () -> cost.of(shop, 0, 2, 9989, 2));
        refuses(what + ": m is 0 at the second step of 20", BAD_STATE, () -> cost.of(shop, 0, 2, 9989, 20));
        refuses(what + ": m is 0 at once", BAD_STATE, () -> cost.of(shop, 0, 0, 0, 1));
        answers(what + ": no step, no m", 0, () -> cost.of(shop, 0, 0, 0, 0));
        for (int number : new int[] {-1, 10007, LOW, HIGH}) {
            refuses(what + ": q " + number, BAD_ARGUMENT, () -> cost.of(shop, 0, number, 0, 1));
            refuses(what + ": r " + number, BAD_ARGUMENT, () -> cost.of(shop, 0, 0, number, 1));
            refuses(what + ": no such system goes first", NO_PLACE, () -> cost.of(shop, 1, number, 0, 1));
        }
        for (int steps : new int[] {-1, 21, LOW, HIGH}) {
            refuses(what + ": steps " + steps, BAD_ARGUMENT, () -> cost.of(shop, 0, 0, 0, steps));
            refuses(what + ": no such system goes first", NO_PLACE, () -> cost.of(shop, -1, 0, 0, steps));
        }
        for (int system : new int[] {-1, 1, LOW, HIGH}) {
            refuses(what + ": system " + system, NO_PLACE, () -> cost.of(shop, system, 1, 1, 1));
        }
        answers(what + ": highest r and most steps", 0, () -> cost.of(shop, 0, 0, 10006, 20));
    }

    private interface Least {
        int of(PoleShop shop, int system);
    }

    private static void promise23And24Least() {
        least("23: least", PoleShop::least);
        least("24: leastAnew", PoleShop::leastAnew);
    }

    private static void least(String what, Least least) {
        PoleShop shop = example();
        answers(what + " of nothing in common", 2, () -> least.of(shop, 0));
        shop.set(0, ROW, 0, 1, 0);
        shop.set(0, THROUGH, 0, 0, 5);
        answers(what + " of a numerator of 0", 0, () -> least.of(shop, 0));
        make(shop, 2, 1, 0, 0, 2, 1, 1, 1, 0, 0);
        answers(what + " of a numerator x less 2", 1, () -> least.of(shop, 1));
        make(shop, 3, 1, 0, 0, 0, 1, 0, 0, 0, 2, 1, 1, 1, 1, 1, 1, 0);
        answers(what + " of a double pole that counts once", 2, () -> least.of(shop, 2));
        make(shop, 4, 0, 1, 0, 0, 0, 0, 1, 0, 0, 0, 0, 1, 0, 0, 0, 0, 0, 0, 0, 1, 0, 0, 1, 0, 0);
        answers(what + " of x to the power 2 by x to the power 4", 2, () -> least.of(shop, 3));
        make(shop, 1, 7, 2, 3, 4);
        answers(what + " of order 1", 1, () -> least.of(shop, 4));
        shop.join(2, 2, false);
        answers(what + " of twice the same", 2, () -> least.of(shop, 5));
        shop.join(0, 1, false);
        answers(what + " of one that nothing is seen of and another", 1, () -> least.of(shop, 6));
        answers(what + " of order 8", 8, () -> least.of(chain(), 1));
        answers(what + " of eight poles side by side", 8, () -> least.of(eightPoles(), 2));
        for (int system : new int[] {-1, 7, 12, LOW, HIGH}) {
            refuses(what + " of " + system, NO_PLACE, () -> least.of(shop, system));
        }
        shop.join(4, 4, true);
        answers(what + " of two in series that share a pole", 2, () -> least.of(shop, 7));
    }

    /** A workshop whose system 2 has the numerators 1 over the poles 1 to 8: Euclid takes eight turns. */
    private static PoleShop eightPoles() {
        PoleShop shop = new PoleShop();
        make(shop, 4, 1, 0, 0, 0, 0, 2, 0, 0, 0, 0, 3, 0, 0, 0, 0, 4, 1, 1, 1, 1, 1, 1, 1, 1, 0);
        make(shop, 4, 5, 0, 0, 0, 0, 6, 0, 0, 0, 0, 7, 0, 0, 0, 0, 8, 1, 1, 1, 1, 1, 1, 1, 1, 0);
        shop.join(0, 1, false);
        return shop;
    }

    // ---- what holds for all

    /** In a chain of 8 delays every answer can be seen without reckoning. */
    private static void order8() {
        PoleShop shop = withInputs(chain(), 5, 6);
        answers("8 delays: output at 8", 5, () -> shop.output(1, 8));
        answers("8 delays: outputAnew at 9", 6, () -> shop.outputAnew(1, 9));
        answers("8 delays: output at 10", 0, () -> shop.output(1, 10));
        for (int steps = 0; steps <= 20; steps++) {
            int s = steps;
            answers("8 delays: cost of " + s, Math.min(s + 1, 8), () -> shop.cost(1, 1, 1, s));
            answers("8 delays: costAnew of " + s, Math.min(s + 1, 8), () -> shop.costAnew(1, 1, 1, s));
        }
        answers("8 delays: loop", 2, () -> shop.loop(1, 7));
        polynomial("8 delays: polynomial of the loop", shop, 2, false, 7, 0, 0, 0, 0, 0, 0, 0, 1);
        withPoles(shop, 1, 1, 1, 1, 1, 1, 1);
        refuses("8 delays: placed with 7 poles", BAD_STATE, () -> shop.placed(1));
        shop.pole(1);
        int[] due = {-8, 28, -56, 70, -56, 28, -8, 1};
        for (int place = 0; place < 8; place++) {
            int p = place;
            answers("8 delays: gain " + p, Math.floorMod(due[p], 10007), () -> shop.gain(1, p));
            answers("8 delays: gainAnew " + p, Math.floorMod(due[p], 10007), () -> shop.gainAnew(1, p));
        }
        answers("8 delays: placed", 3, () -> shop.placed(1));
        polynomial("8 delays: polynomial of the placed one", shop, 3, false, 1, -8, 28, -56, 70, -56, 28, -8, 1);
    }

    private static void eachSystemByItself() {
        PoleShop shop = withPoles(example(), 1, 2, 3, 4);
        shop.join(0, 0, true);
        shop.join(0, 0, false);
        shop.loop(0, 5);
        shop.placed(0);
        shop.joined(0);
        String[] before = new String[6];
        for (int system = 0; system < 6; system++) {
            before[system] = whole(shop, system);
        }
        for (int what = SQUARE; what <= THROUGH; what++) {
            shop.set(0, what, 0, 0, 100);
            shop.set(0, what, 1, 1, 200);
        }
        for (int system = 1; system < 6; system++) {
            CHECK.same("what is made of others does not change with them", before[system], whole(shop, system));
        }
        String first = whole(shop, 0);
        for (int system = 1; system < 6; system++) {
            shop.set(system, SQUARE, 0, 0, 300);
            shop.set(system, COLUMN, 0, 0, 300);
            shop.set(system, ROW, 0, 0, 300);
        }
        CHECK.same("nor do they with it", first, whole(shop, 0));
    }

    private static void questionsChangeNothing() {
        PoleShop shop = withInputs(withPoles(example(), 1, 2, 3, 4), 1, 2, 5);
        make(shop, 3, 2, 1, 0, 0, 3, 1, 0, 0, 4, 0, 0, 1, 1, 2, 3, 7);
        String first = whole(shop, 0);
        String second = whole(shop, 1);
        String answered = questions(shop);
        CHECK.same("questions are answered alike again", answered, questions(shop));
        CHECK.same("questions change no system", first + second, whole(shop, 0) + whole(shop, 1));
        refuses("questions make none", NO_PLACE, () -> shop.order(2));
        answers("questions take no poles and inputs", 7, shop::clear);
    }

    private static String questions(PoleShop shop) {
        StringBuilder all = new StringBuilder();
        for (int system = 1; system >= 0; system--) {
            all.append(shop.polynomial(system, 1, false)).append(' ').append(shop.polynomial(system, 0, true));
            all.append(' ').append(shop.rank(system, false)).append(' ').append(shop.rank(system, true));
            all.append(' ').append(shop.number(system, 9)).append(' ').append(shop.output(system, 9));
            all.append(' ').append(shop.outputAnew(system, 9)).append(' ').append(shop.gain(system, 0));
            all.append(' ').append(shop.gainAnew(system, 1)).append(' ').append(shop.least(system));
            all.append(' ').append(shop.leastAnew(system)).append(' ').append(shop.cost(system, 1, 3, 4));
            all.append(' ').append(shop.costAnew(system, 1, 3, 4)).append('\n');
        }
        return all.append(shop.observer(0, 1)).toString();
    }
}
