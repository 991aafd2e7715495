import java.util.function.Supplier;

/** The boundary cases of promises 13 to 17 and 21 to 24: polynomials, ranks, outputs, costs and least orders. */
public final class AnswersEdgeTest extends Shops {
    private AnswersEdgeTest() {
    }

    public static void main(String[] args) {
        polynomialWantsASystemAndAPowerOf0ToItsOrder();
        theHighestCoefficientIs1();
        theNumeratorEndsBelowTheOrder();
        rankWantsASystemThatThereIs();
        rankIs0ToTheOrder();
        numberWantsASystemAndAKOf0To40();
        theNumberH0IsD();
        outputWantsASystemAndAStepOf0To40();
        outputIsThatOf0BehindTheLastInput();
        costWantsASystemThatThereIs();
        costWantsQAndROf0To10006();
        costWants0To20Steps();
        costIsRefusedIfSomeMIs0();
        costOfNoStepsAsksForNoM();
        costIsThatOfTheStateOfAll1();
        leastWantsASystemThatThereIs();
        leastOfANumeratorOf0Is0();
        leastIs0ToTheOrder();
        CHECK.end("AnswersEdgeTest");
    }

    private static final int[] NO_SYSTEM = {-1, 4, 12, LOW, HIGH};

    private static Supplier<PoleShop> delaysOf(int n) {
        return () -> {
            PoleShop shop = new PoleShop();
            delays(shop, n);
            return shop;
        };
    }

    private static int chainOf(int n) {
        return n > 4 ? 2 : 0;
    }

    // ---- promise 13

    private static void polynomialWantsASystemAndAPowerOf0ToItsOrder() {
        for (boolean isNumerator : new boolean[] {false, true}) {
            String what = isNumerator ? "13: numerator" : "13: polynomial";
            for (int n = 1; n <= 8; n++) {
                int order = n;
                int system = chainOf(n);
                asked(what + " of order " + n + " at 0", isNumerator ? 1 : 0, delaysOf(n),
                        shop -> shop.polynomial(system, 0, isNumerator));
                asked(what + " of order " + n + " at " + n, isNumerator ? 0 : 1, delaysOf(n),
                        shop -> shop.polynomial(system, order, isNumerator));
                for (int power : new int[] {-1, n + 1, 9, LOW, HIGH}) {
                    refused(what + " of order " + n + " at " + power, NO_PLACE, delaysOf(n),
                            shop -> shop.polynomial(system, power, isNumerator));
                }
            }
            for (int system : NO_SYSTEM) {
                refused(what + " of " + system, NO_PLACE, Shops::busy,
                        shop -> shop.polynomial(system, 0, isNumerator));
            }
            asked(what + " of the twelfth at 1", isNumerator ? 0 : 1, () -> full(busy()),
                    shop -> shop.polynomial(11, 1, isNumerator));
            refused(what + " of the thirteenth", NO_PLACE, () -> full(busy()),
                    shop -> shop.polynomial(12, 0, isNumerator));
        }
    }

    private static void theHighestCoefficientIs1() {
        for (int value : new int[] {0, 1, 5003, 10006}) {
            PoleShop shop = new PoleShop();
            make(shop, 1, value, value, value, value);
            for (int n = 1; n <= 8; n++) {
                int system = n - 1;
                int order = n;
                answers("13: highest of order " + n + ", all " + value, 1,
                        () -> shop.polynomial(system, order, false));
                // the poles are all the value, so the next coefficient is less n times it
                answers("13: next to it", remainder(-n * value), () -> shop.polynomial(system, order - 1, false));
                if (n < 8) {
                    shop.join(system, 0, true);
                }
            }
        }
    }

    private static void theNumeratorEndsBelowTheOrder() {
        PoleShop shop = new PoleShop();
        make(shop, 2, 0, 0, 0, 0, 10006, 0, 10006, 0, 7);
        polynomial("13: of c b x", shop, 0, true, 0, 1, 0);
        polynomial("13: d does not matter to it", shop, 0, false, 0, 0, 1);
        make(shop, 3, 1, 2, 3, 4, 5, 6, 7, 8, 9, 0, 0, 0, 1, 1, 1, 5);
        polynomial("13: of b 0", shop, 1, true, 0, 0, 0, 0);
        polynomial("13: of b 0, below", shop, 1, false, 0, -18, -15, 1);
        make(shop, 3, 1, 2, 3, 4, 5, 6, 7, 8, 9, 1, 1, 1, 0, 0, 0, 5);
        polynomial("13: of c 0", shop, 2, true, 0, 0, 0, 0);
    }

    // ---- promise 14

    private static void rankWantsASystemThatThereIs() {
        for (boolean toSee : new boolean[] {false, true}) {
            asked("14: rank of the first", 4, Shops::busy, shop -> shop.rank(0, toSee));
            asked("14: rank of the last", 2, Shops::busy, shop -> shop.rank(3, toSee));
            asked("14: rank of the twelfth", 0, () -> full(busy()), shop -> shop.rank(11, toSee));
            refused("14: rank of the thirteenth", NO_PLACE, () -> full(busy()), shop -> shop.rank(12, toSee));
            for (int system : NO_SYSTEM) {
                refused("14: rank of " + system, NO_PLACE, Shops::busy, shop -> shop.rank(system, toSee));
            }
        }
    }

    /** A system with A in a diagonal is steered as far as its poles differ and b is not 0 there. */
    private static void rankIs0ToTheOrder() {
        for (int n = 1; n <= 8; n++) {
            int order = n;
            int system = chainOf(n);
            asked("14: order " + n + " can be steered", n, delaysOf(n), shop -> shop.rank(system, false));
            asked("14: order " + n + " can be seen", n, delaysOf(n), shop -> shop.rank(system, true));
            for (int rank = 0; rank < n; rank++) {
                PoleShop steered = delaysOf(n).get();
                PoleShop seen = delaysOf(n).get();
                int due = rank;
                steered.set(system, COLUMN, 0, 0, 0);
                seen.set(system, ROW, 0, order - 1, 0);
                if (rank > 0) {
                    steered.set(system, COLUMN, order - rank, 0, 10006);
                    seen.set(system, ROW, 0, rank - 1, 10006);
                }
                answers("14: order " + n + " steered by " + rank, due, () -> steered.rank(system, false));
                answers("14: but seen as before", order, () -> steered.rank(system, true));
                answers("14: order " + n + " seen by " + rank, due, () -> seen.rank(system, true));
                answers("14: but steered as before", order, () -> seen.rank(system, false));
            }
        }
        PoleShop shop = new PoleShop();
        make(shop, 3, 5, 0, 0, 0, 5, 0, 0, 0, 6, 1, 2, 3, 0, 1, 0, 0);
        answers("14: of three poles two are one", 2, () -> shop.rank(0, false));
        answers("14: one is seen", 1, () -> shop.rank(0, true));
        shop.set(0, SQUARE, 1, 1, -4);
        answers("14: of three poles none are one", 3, () -> shop.rank(0, false));
    }

    // ---- promises 15 to 17

    private static void numberWantsASystemAndAKOf0To40() {
        Supplier<PoleShop> made = AnswersEdgeTest::turningSign;
        for (int k = 0; k <= 40; k++) {
            int number = k;
            asked("15: h " + k, k == 0 ? 8 : k % 2 == 0 ? -1 : 1, made, shop -> shop.number(4, number));
        }
        for (int k : new int[] {-1, 41, 42, LOW, HIGH}) {
            refused("15: h " + k, BAD_ARGUMENT, made, shop -> shop.number(4, k));
        }
        for (int system : NO_SYSTEM) {
            refused("15: number of " + system, NO_PLACE, Shops::busy, shop -> shop.number(system, 0));
        }
        asked("15: number of the twelfth", 0, () -> full(busy()), shop -> shop.number(11, 40));
        refused("15: number of the thirteenth", NO_PLACE, () -> full(busy()), shop -> shop.number(12, 40));
    }

    /** System 4 has A -1, b 1, c 1 and d 8. */
    private static PoleShop turningSign() {
        PoleShop shop = busy();
        make(shop, 1, -1, 1, 1, 8);
        return shop;
    }

    private static void theNumberH0IsD() {
        PoleShop shop = example();
        int[] due = {0, 0, 3, 15, 81, 435};
        for (int d : new int[] {0, 1, 10006}) {
            shop.set(0, THROUGH, 0, 0, d);
            answers("15: h 0", d, () -> shop.number(0, 0));
            for (int k = 1; k < due.length; k++) {
                int number = k;
                answers("15: h " + k + ", d does not matter", due[k], () -> shop.number(0, number));
            }
        }
    }

    private interface Asked {
        int of(PoleShop shop, int system, int step);
    }

    private static void outputWantsASystemAndAStepOf0To40() {
        wantsASystemAndAStep("16: output", PoleShop::output);
        wantsASystemAndAStep("17: outputAnew", PoleShop::outputAnew);
    }

    private static void wantsASystemAndAStep(String what, Asked call) {
        Supplier<PoleShop> made = AnswersEdgeTest::turningSign;
        asked(what + " at 0", 40, made, shop -> call.of(shop, 4, 0));
        asked(what + " at 1", 48 + 5, made, shop -> call.of(shop, 4, 1));
        asked(what + " at 39", 7 - 6 + 5, made, shop -> call.of(shop, 4, 39));
        asked(what + " at 40", -7 + 6 - 5, made, shop -> call.of(shop, 4, 40));
        for (int step : new int[] {-1, 41, 42, LOW, HIGH}) {
            refused(what + " at " + step, BAD_ARGUMENT, made, shop -> call.of(shop, 4, step));
            refused(what + " at " + step + " of none", NO_PLACE, made, shop -> call.of(shop, 5, step));
        }
        for (int system : NO_SYSTEM) {
            refused(what + " of " + system, NO_PLACE, Shops::busy, shop -> call.of(shop, system, 0));
        }
        asked(what + " of the twelfth", 0, () -> full(busy()), shop -> call.of(shop, 11, 40));
        refused(what + " of the thirteenth", NO_PLACE, () -> full(busy()), shop -> call.of(shop, 12, 40));
    }

    private static void outputIsThatOf0BehindTheLastInput() {
        behindTheLastInput("16: output", PoleShop::output);
        behindTheLastInput("17: outputAnew", PoleShop::outputAnew);
    }

    /** By a wire, that tells the inputs, and by a system that adds up what went in before. */
    private static void behindTheLastInput(String what, Asked call) {
        for (int count : new int[] {0, 1, 2, 19, 20}) {
            PoleShop shop = new PoleShop();
            make(shop, 1, 0, 0, 0, 1);
            make(shop, 1, 1, 1, 1, 0);
            int[] sums = new int[41];
            for (int step = 0; step < 40; step++) {
                sums[step + 1] = sums[step] + (step < count ? 300 + step : 0);
            }
            for (int step = 0; step < count; step++) {
                shop.input(300 + step);
            }
            for (int step = 0; step <= 40; step++) {
                int s = step;
                answers(what + " with " + count + " inputs at " + s, s < count ? 300 + s : 0,
                        () -> call.of(shop, 0, s));
                answers(what + ", the sum of those before " + s, sums[s], () -> call.of(shop, 1, s));
            }
        }
    }

    // ---- promises 21 and 22

    private interface Cost {
        int of(PoleShop shop, int system, int q, int r, int steps);
    }

    private static void costWantsASystemThatThereIs() {
        costOfSystems("21: cost", PoleShop::cost);
        costOfSystems("22: costAnew", PoleShop::costAnew);
    }

    private static void costOfSystems(String what, Cost cost) {
        asked(what + " of the first", 1, Shops::busy, shop -> cost.of(shop, 0, 1, 1, 0));
        asked(what + " of the last", 100, Shops::busy, shop -> cost.of(shop, 3, 2, 3, 1));
        asked(what + " of the twelfth", 0, () -> full(busy()), shop -> cost.of(shop, 11, 1, 1, 20));
        refused(what + " of the thirteenth", NO_PLACE, () -> full(busy()), shop -> cost.of(shop, 12, 1, 1, 20));
        for (int system : NO_SYSTEM) {
            refused(what + " of " + system, NO_PLACE, Shops::busy, shop -> cost.of(shop, system, 1, 1, 1));
        }
    }

    private static void costWantsQAndROf0To10006() {
        costOfQAndR("21: cost", PoleShop::cost);
        costOfQAndR("22: costAnew", PoleShop::costAnew);
    }

    /** System 3 of busy(): c x is 1 and 7, and b P b is 0 at first, so that one step costs 50 q for any r but 0. */
    private static void costOfQAndR(String what, Cost cost) {
        for (int q : new int[] {0, 1, 10006}) {
            for (int r : new int[] {1, 5003, 10006}) {
                asked(what + " with q " + q + ", r " + r, 50 * q, Shops::busy, shop -> cost.of(shop, 3, q, r, 1));
            }
        }
        asked(what + " with r 0", 1, AnswersEdgeTest::steeredToZero, shop -> cost.of(shop, 4, 1, 0, 1));
        for (int wrong : new int[] {-1, -10006, 10007, 10008, LOW, HIGH}) {
            refused(what + " with q " + wrong, BAD_ARGUMENT, Shops::busy, shop -> cost.of(shop, 3, wrong, 1, 1));
            refused(what + " with r " + wrong, BAD_ARGUMENT, Shops::busy, shop -> cost.of(shop, 3, 1, wrong, 1));
            refused(what + " with q " + wrong + ", no steps", BAD_ARGUMENT, Shops::busy,
                    shop -> cost.of(shop, 3, wrong, 1, 0));
            refused(what + " with r " + wrong + ", no steps", BAD_ARGUMENT, Shops::busy,
                    shop -> cost.of(shop, 3, 1, wrong, 0));
        }
    }

    /** System 4 has A 1, b 2, c 1: m of one step is r and 4 times q; with r 0 the state is 0 after a step. */
    private static PoleShop steeredToZero() {
        PoleShop shop = busy();
        make(shop, 1, 1, 2, 1, 0);
        return shop;
    }

    private static void costWants0To20Steps() {
        costOfSteps("21: cost", PoleShop::cost);
        costOfSteps("22: costAnew", PoleShop::costAnew);
    }

    /** With A 1, b 0, c 1 the state stays 1, and each step costs q. */
    private static void costOfSteps(String what, Cost cost) {
        Supplier<PoleShop> made = () -> {
            PoleShop shop = busy();
            make(shop, 1, 1, 0, 1, 6);
            return shop;
        };
        for (int steps = 0; steps <= 20; steps++) {
            int s = steps;
            asked(what + " of " + s + " steps", 3 * (s + 1), made, shop -> cost.of(shop, 4, 3, 1, s));
            asked(what + " of " + s + " steps, highest q", -(s + 1), made, shop -> cost.of(shop, 4, 10006, 1, s));
        }
        for (int steps : new int[] {-1, 21, 22, LOW, HIGH}) {
            refused(what + " of " + steps + " steps", BAD_ARGUMENT, made, shop -> cost.of(shop, 4, 3, 1, steps));
        }
    }

    private static void costIsRefusedIfSomeMIs0() {
        costWithoutM("21: cost", PoleShop::cost);
        costWithoutM("22: costAnew", PoleShop::costAnew);
    }

    /**
     * A chain of n delays has m r at each of the first n - 1 steps, and r and q at all behind: what goes
     * in comes out n steps later. So with r less q it is the step n that finds an m of 0.
     */
    private static void costWithoutM(String what, Cost cost) {
        for (int n = 1; n <= 8; n++) {
            int system = chainOf(n);
            for (int steps = 0; steps < n; steps++) {
                int s = steps;
                asked(what + ", order " + n + ", " + s + " steps", Math.min(s + 1, n), delaysOf(n),
                        shop -> cost.of(shop, system, 1, 10006, s));
            }
            for (int steps : new int[] {n, n + 1, 20}) {
                refused(what + ", order " + n + ", " + steps + " steps", BAD_STATE, delaysOf(n),
                        shop -> cost.of(shop, system, 1, 10006, steps));
            }
            asked(what + ", order " + n + ", another r", n, delaysOf(n), shop -> cost.of(shop, system, 1, 10005, 20));
        }
        refused(what + ", r 0 and b 0", BAD_STATE, Shops::busy, shop -> cost.of(shop, 2, 1, 0, 1));
        refused(what + ", r 0 and q 0", BAD_STATE, Shops::busy, shop -> cost.of(shop, 3, 0, 0, 1));
        Supplier<PoleShop> made = AnswersEdgeTest::steeredToZero;
        refused(what + ", m is 0 at step 1", BAD_STATE, made, shop -> cost.of(shop, 4, 1, 10003, 1));
        refused(what + ", m is 0 at step 1 of 20", BAD_STATE, made, shop -> cost.of(shop, 4, 1, 10003, 20));
        // K is -2, so the input is 2: 1 and 4 r and 25; then K is 2, the input -2: 1 and 4 r and 9
        asked(what + ", m is -1 at step 1", 6, made, shop -> cost.of(shop, 4, 1, 10002, 1));
        asked(what + ", m is 1 at step 1", -2, made, shop -> cost.of(shop, 4, 1, 10004, 1));
        allM(what, cost);
    }

    /** With A, b, c and q 1, m is r and 1, and a step costs 2 less the quotient of 1 by m. */
    private static void allM(String what, Cost cost) {
        PoleShop shop = new PoleShop();
        int wrong = 0;
        for (int r = 0; r <= 10005; r++) {
            if (r % 500 == 0) {
                shop = new PoleShop();
                make(shop, 1, 1, 1, 1, 0);
            }
            int quotient = remainder(2 - cost.of(shop, 0, 1, r, 1));
            wrong += quotient * (r + 1) % 10007 == 1 ? 0 : 1;
        }
        CHECK.same(what + ", wrong ones of all m", "0", Integer.toString(wrong));
        PoleShop last = shop;
        refuses(what + ", the m that is 0", BAD_STATE, () -> cost.of(last, 0, 1, 10006, 1));
    }

    private static void costOfNoStepsAsksForNoM() {
        costOfNoSteps("21: cost", PoleShop::cost);
        costOfNoSteps("22: costAnew", PoleShop::costAnew);
    }

    private static void costOfNoSteps(String what, Cost cost) {
        asked(what + " of no steps, b 0, r 0", 0, Shops::busy, shop -> cost.of(shop, 2, 5, 0, 0));
        asked(what + " of no steps, q 0, r 0", 0, Shops::busy, shop -> cost.of(shop, 3, 0, 0, 0));
        asked(what + " of no steps, r less q", 1, delaysOf(1), shop -> cost.of(shop, 0, 1, 10006, 0));
    }

    private static void costIsThatOfTheStateOfAll1() {
        PoleShop shop = new PoleShop();
        make(shop, 4, 0, 0, 0, 0, 0, 0, 0, 0, 0, 0, 0, 0, 0, 0, 0, 0, 0, 0, 0, 0, 1, 20, 300, 4000, 8);
        answers("21: all numbers of c count", 4321 * 4321 % 10007, () -> shop.cost(0, 1, 1, 0));
        answers("22: all numbers of c count", 4321 * 4321 % 10007, () -> shop.costAnew(0, 1, 1, 0));
        withInputs(shop, 9, 9);
        answers("21: inputs that were typed do not", 4321 * 4321 % 10007, () -> shop.cost(0, 1, 1, 5));
        answers("22: inputs that were typed do not", 4321 * 4321 % 10007, () -> shop.costAnew(0, 1, 1, 5));
    }

    // ---- promises 23 and 24

    private interface Least {
        int of(PoleShop shop, int system);
    }

    private static void leastWantsASystemThatThereIs() {
        leastOfSystems("23: least", PoleShop::least);
        leastOfSystems("24: leastAnew", PoleShop::leastAnew);
    }

    private static void leastOfSystems(String what, Least least) {
        asked(what + " of the first", 4, Shops::busy, shop -> least.of(shop, 0));
        asked(what + " of the last", 2, Shops::busy, shop -> least.of(shop, 3));
        asked(what + " of the twelfth", 0, () -> full(busy()), shop -> least.of(shop, 11));
        refused(what + " of the thirteenth", NO_PLACE, () -> full(busy()), shop -> least.of(shop, 12));
        for (int system : NO_SYSTEM) {
            refused(what + " of " + system, NO_PLACE, Shops::busy, shop -> least.of(shop, system));
        }
    }

    private static void leastOfANumeratorOf0Is0() {
        leastOf0("23: least", PoleShop::least);
        leastOf0("24: leastAnew", PoleShop::leastAnew);
    }

    private static void leastOf0(String what, Least least) {
        for (int n = 1; n <= 8; n++) {
            int system = chainOf(n);
            PoleShop shop = delaysOf(n).get();
            shop.set(system, THROUGH, 0, 0, 5);
            shop.set(system, COLUMN, 0, 0, 0);
            answers(what + " of order " + n + ", b 0", 0, () -> least.of(shop, system));
            shop.set(system, COLUMN, 0, 0, 1);
            shop.set(system, ROW, 0, n - 1, 0);
            answers(what + " of order " + n + ", c 0", 0, () -> least.of(shop, system));
        }
        PoleShop shop = new PoleShop();
        make(shop, 2, 1, 0, 0, 2, 1, 0, 0, 1, 9);
        answers(what + ", what is steered is not seen", 0, () -> least.of(shop, 0));
        make(shop, 2, 4, 0, 0, 4, 1, 1, 1, -1, 9);
        answers(what + ", what is steered takes itself away", 0, () -> least.of(shop, 1));
    }

    private static void leastIs0ToTheOrder() {
        leastBetween("23: least", PoleShop::least);
        leastBetween("24: leastAnew", PoleShop::leastAnew);
    }

    /** In a chain of delays that is seen after some of them, the rest takes nothing but room. */
    private static void leastBetween(String what, Least least) {
        for (int n = 1; n <= 8; n++) {
            int system = chainOf(n);
            for (int seenAt = 1; seenAt <= n; seenAt++) {
                PoleShop shop = delaysOf(n).get();
                int due = seenAt;
                shop.set(system, ROW, 0, n - 1, 0);
                shop.set(system, ROW, 0, seenAt - 1, 10006);
                answers(what + " of order " + n + ", seen after " + seenAt, due, () -> least.of(shop, system));
            }
            asked(what + " of order " + n + ", seen at its end", n, delaysOf(n), shop -> least.of(shop, system));
        }
        PoleShop shop = new PoleShop();
        make(shop, 1, 3, 1, 1, 0);
        make(shop, 1, 3, 1, -1, 0);
        make(shop, 1, 4, 1, 1, 0);
        shop.join(0, 1, false);
        answers(what + " of one and less the same", 0, () -> least.of(shop, 3));
        shop.join(0, 2, false);
        answers(what + " of two that differ", 2, () -> least.of(shop, 4));
        shop.join(4, 1, false);
        answers(what + " of two that differ, less one", 1, () -> least.of(shop, 5));
        shop.join(0, 0, true);
        answers(what + " of a pole that counts twice", 2, () -> least.of(shop, 6));
        eightSideBySide(what, least);
    }

    /** Eight poles side by side have nothing in common with their numerator, and Euclid takes eight turns. */
    private static void eightSideBySide(String what, Least least) {
        PoleShop shop = new PoleShop();
        make(shop, 4, 1, 0, 0, 0, 0, 2, 0, 0, 0, 0, 3, 0, 0, 0, 0, 4, 1, 1, 1, 1, 1, 1, 1, 1, 0);
        make(shop, 4, 5, 0, 0, 0, 0, 6, 0, 0, 0, 0, 7, 0, 0, 0, 0, 8, 1, 1, 1, 1, 1, 1, 1, 1, 0);
        shop.join(0, 1, false);
        answers(what + " of eight poles side by side", 8, () -> least.of(shop, 2));
        for (int gone = 0; gone < 8; gone++) {
            int due = 7 - gone;
            shop.set(2, gone % 2 == 0 ? COLUMN : ROW, gone, gone, 0);
            answers(what + " of eight poles, " + due + " of them seen", due, () -> least.of(shop, 2));
        }
    }
}
