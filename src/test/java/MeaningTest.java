import java.util.Arrays;

/**
 * The sentences of the Terms by what goes in and what comes out, not by the numbers that a system is made of:
 * each is held by what other calls answer of dense systems of every order.
 */
public final class MeaningTest extends Shops {
    private static final int[] INPUTS = {3, 0, 10006, 5003, 17, 1, 1, 250, 9999, 4, 0, 0, 8, 77, 6, 2, 5005, 12, 1, 90};
    private static final int[] POLES = {5, 10006, 5, 77, 0, 2, 9000, 31, 1, 1, 10005, 400, 0, 6, 71, 5003};

    private PoleShop shop = new PoleShop();

    private MeaningTest() {
    }

    public static void main(String[] args) {
        MeaningTest test = new MeaningTest();
        test.theOutputOfTheFirstIsTheInputOfTheSecond();
        test.sideBySideBothHaveTheInput();
        test.inALoopTheInputIsANewOneLessGTimesTheOutput();
        test.aLoopWithLessGTakesALoopBack();
        test.theNumeratorIsThatOfTheNumbersH();
        test.toPlaceThemIsToFindTheRowK();
        test.toObserveIsToFindTheColumnL();
        test.theJoinedSystemGoesAsThePlacedOne();
        CHECK.end("MeaningTest");
    }

    /** A new workshop with a dense system, whose number is told. */
    private int alone(int n) {
        shop = new PoleShop();
        return dense(shop, n);
    }

    private int[] outputs(int system, int... inputs) {
        shop.clear();
        withInputs(shop, inputs);
        int[] all = new int[inputs.length];
        for (int step = 0; step < all.length; step++) {
            all[step] = shop.output(system, step);
        }
        return all;
    }

    private static void same(String what, int[] due, int[] got) {
        for (int place = 0; place < due.length; place++) {
            int p = place;
            answers(what + ", at " + p, due[p], () -> got[p]);
        }
    }

    // ---- systems of others

    private void theOutputOfTheFirstIsTheInputOfTheSecond() {
        for (int n = 1; n <= 4; n++) {
            for (int m = 1; m <= 4; m++) {
                int first = alone(n);
                int second = dense(shop, m);
                int both = shop.join(first, second, true);
                int[] between = outputs(first, INPUTS);
                same(n + " and " + m + " in series", outputs(second, between), outputs(both, INPUTS));
            }
        }
    }

    private void sideBySideBothHaveTheInput() {
        for (int n = 1; n <= 4; n++) {
            for (int m = 1; m <= 4; m++) {
                int first = alone(n);
                int second = dense(shop, m);
                int both = shop.join(first, second, false);
                int[] due = outputs(first, INPUTS);
                int[] other = outputs(second, INPUTS);
                for (int step = 0; step < due.length; step++) {
                    due[step] = remainder(due[step] + other[step]);
                }
                same(n + " and " + m + " side by side", due, outputs(both, INPUTS));
            }
        }
    }

    private void inALoopTheInputIsANewOneLessGTimesTheOutput() {
        for (int n = 1; n <= 8; n++) {
            for (int g : new int[] {1, -1, 10006, -10006, 5003, 2, 0}) {
                int system = alone(n);
                int[] due = outputs(shop.loop(system, g), INPUTS);
                int[] inside = new int[INPUTS.length];
                for (int step = 0; step < inside.length; step++) {
                    inside[step] = remainder(INPUTS[step] - g * due[step]);
                }
                same("order " + n + ", looped with " + g, due, outputs(system, inside));
            }
        }
    }

    private void aLoopWithLessGTakesALoopBack() {
        for (int n = 1; n <= 8; n++) {
            for (int g : new int[] {1, -1, 5003, 10006}) {
                int system = alone(n);
                int back = shop.loop(shop.loop(system, g), -g);
                CHECK.same("order " + n + ", a loop with " + g + " and back", whole(shop, system), whole(shop, back));
            }
        }
    }

    // ---- what is told of one

    /**
     * The inverse of (x times the identity, less A) is the sum of A to the power k, by x to the power k and 1.
     * So the polynomial, times the sum of h k by x to the power k from k 1 on, is the numerator: nothing is
     * left of it at the powers below 0.
     */
    private void theNumeratorIsThatOfTheNumbersH() {
        for (int n = 1; n <= 8; n++) {
            int system = alone(n);
            long[] h = new long[41];
            long[] below = new long[n + 1];
            for (int k = 1; k <= 40; k++) {
                h[k] = shop.number(system, k);
            }
            for (int power = 0; power <= n; power++) {
                below[power] = shop.polynomial(system, power, false);
            }
            for (int power = n - 40; power <= n; power++) {
                long sum = 0;
                for (int i = Math.max(power + 1, 0); i <= n; i++) {
                    sum += below[i] * h[i - power];
                }
                int p = power;
                answers("numerator of order " + n + " at " + p, Math.floorMod(sum, 10007),
                        () -> p < 0 ? 0 : shop.polynomial(system, p, true));
            }
        }
    }

    // ---- poles, observers

    private void toPlaceThemIsToFindTheRowK() {
        for (int n = 1; n <= 8; n++) {
            int system = alone(n);
            withPoles(shop, POLES);
            int placed = shop.placed(system);
            for (int j = 0; j < n; j++) {
                int column = j;
                int k = shop.gain(system, j);
                answers("order " + n + ", k " + j + " anew", k, () -> shop.gainAnew(system, column));
                for (int i = 0; i < n; i++) {
                    int row = i;
                    int own = shop.at(system, SQUARE, i, j);
                    int due = remainder(own - shop.at(system, COLUMN, i, 0) * k);
                    answers("order " + n + ", A less b k at " + i + " " + j, due,
                            () -> shop.at(placed, SQUARE, row, column));
                }
            }
            answers("order " + n + ", placed where it is asked", 0, () -> shop.gain(placed, 0));
        }
    }

    private void toObserveIsToFindTheColumnL() {
        for (int n = 1; n <= 8; n++) {
            int system = alone(n);
            withPoles(shop, POLES);
            int[] l = new int[n];
            for (int i = 0; i < n; i++) {
                l[i] = shop.observer(system, i);
            }
            for (int i = 0; i < n; i++) {
                for (int j = 0; j < n; j++) {
                    int own = shop.at(system, SQUARE, i, j);
                    shop.set(system, SQUARE, i, j, remainder(own - l[i] * shop.at(system, ROW, 0, j)));
                }
            }
            int[] asked = Arrays.copyOfRange(POLES, n, 2 * n);
            polynomial("order " + n + ", A less l c", shop, system, false, product(asked));
        }
    }

    /** The observer begins where the state does, so it never errs, and nothing that comes out shows it. */
    private void theJoinedSystemGoesAsThePlacedOne() {
        for (int n = 1; n <= 4; n++) {
            int order = n;
            int system = alone(n);
            shop.set(system, THROUGH, 0, 0, 0);
            withPoles(shop, POLES);
            int placed = shop.placed(system);
            int joined = shop.joined(system);
            same("order " + n + ", joined", outputs(placed, INPUTS), outputs(joined, INPUTS));
            answers("order " + n + ", joined, can be steered as far as that", order, () -> shop.rank(joined, false));
            int least = shop.least(placed);
            answers("order " + n + ", joined, its least order", least, () -> shop.least(joined));
            answers("order " + n + ", joined, its least order anew", least, () -> shop.leastAnew(joined));
        }
    }
}
