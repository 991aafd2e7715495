import java.util.Arrays;
import java.util.function.IntBinaryOperator;
import java.util.function.Supplier;

/** The boundary cases of promises 6 to 10 and 18 to 20: poles and inputs, and what poles are placed with. */
public final class PolesEdgeTest extends Shops {
    private static final int[] OUT_OF_RANGE = {10007, -10007, 10008, -10008, LOW, HIGH};
    private static final int[] POLES = {1, 2, -3, 4, 0, 10006, 7, 7, -9, 10, 11, 5003, 13, -14, 0, 16};

    private PolesEdgeTest() {
    }

    public static void main(String[] args) {
        poleWantsAValueFromMinus10006To10006();
        poleReturnsHowManyThereAreThen();
        poleIsRefusedIfThereAre16();
        inputWantsAValueFromMinus10006To10006();
        inputReturnsHowManyThereAreThen();
        inputIsRefusedIfThereAre20();
        clearTakesAllAway();
        clearReturnsHowManyThereWere();
        clearLeavesSystems();
        placedWantsASystemThatThereIs();
        placedWantsAsManyPolesAsItsOrder();
        placedIsRefusedIfItCannotBeSteered();
        placedLeavesTheRestAsItIs();
        placedIsRefusedIfThereAre12();
        joinedWantsASystemThatThereIs();
        joinedWantsAnOrderOf4AtMost();
        joinedWantsD0();
        joinedWantsTwiceAsManyPolesAsItsOrder();
        joinedIsRefusedIfItCannotBeSteeredOrSeen();
        joinedHasThePolesOfBoth();
        joinedOfOrder4HasTheWholeOfBoth();
        joinedIsRefusedIfThereAre12();
        gainWantsASystemAndAPlace();
        gainWantsAsManyPolesAsItsOrder();
        gainIsRefusedIfItCannotBeSteered();
        observerWantsASystemAndAPlace();
        observerWantsTwiceAsManyPolesAsItsOrder();
        observerIsRefusedIfItCannotBeSeen();
        CHECK.end("PolesEdgeTest");
    }

    private static int[] part(int from, int to) {
        return Arrays.copyOfRange(POLES, from, to);
    }

    /** A workshop with a chain of n delays and so many poles. */
    private static Supplier<PoleShop> delaysWithPoles(int n, int poles) {
        return () -> {
            PoleShop shop = new PoleShop();
            delays(shop, n);
            return withPoles(shop, part(0, poles));
        };
    }

    /** The number of the chain of n delays in such a workshop. */
    private static int chainOf(int n) {
        return n > 4 ? 2 : 0;
    }

    // ---- promise 6

    private static void poleWantsAValueFromMinus10006To10006() {
        for (int value : new int[] {-10006, -1, 0, 1, 10006}) {
            PoleShop shop = new PoleShop();
            delays(shop, 1);
            answers("6: pole " + value, 1, () -> shop.pole(value));
            answers("6: pole " + value + " placed", remainder(-value), () -> shop.gain(0, 0));
        }
        for (int value : OUT_OF_RANGE) {
            refused("6: pole " + value, BAD_ARGUMENT, Shops::busy, shop -> shop.pole(value));
            refused("6: pole " + value + ", the first one", BAD_ARGUMENT, PoleShop::new, shop -> shop.pole(value));
        }
    }

    private static void poleReturnsHowManyThereAreThen() {
        PoleShop shop = new PoleShop();
        for (int count = 1; count <= 16; count++) {
            int c = count;
            answers("6: pole " + c, c, () -> shop.pole(5));
            refuses("6: refused behind pole " + c, BAD_ARGUMENT, () -> shop.pole(10007));
            answers("6: inputs count for themselves", c, () -> shop.input(5));
        }
    }

    private static void poleIsRefusedIfThereAre16() {
        PoleShop shop = withPoles(chain(), part(0, 15));
        answers("6: the sixteenth", 16, () -> shop.pole(POLES[15]));
        refuses("6: the seventeenth", BAD_STATE, () -> shop.pole(99));
        refuses("6: and again", BAD_STATE, () -> shop.pole(0));
        answers("6: the inputs are not full", 1, () -> shop.input(1));
        int[] due = product(part(8, 16));
        for (int place = 0; place < 8; place++) {
            int p = place;
            answers("6: the last poles stay, " + p, due[p], () -> shop.observer(1, p));
        }
        refused("6: there are 16", BAD_STATE, () -> withPoles(chain(), POLES), made -> made.pole(3));
        answers("6: cleared", 17, shop::clear);
        answers("6: the first one again", 1, () -> shop.pole(8));
    }

    // ---- promise 7

    private static void inputWantsAValueFromMinus10006To10006() {
        for (int value : new int[] {-10006, -1, 0, 1, 10006}) {
            PoleShop shop = busy();
            answers("7: input " + value, 4, () -> shop.input(value));
            answers("7: input " + value + " shows", remainder(value), () -> shop.output(2, 3));
            answers("7: input " + value + " shows anew", remainder(value), () -> shop.outputAnew(2, 3));
        }
        for (int value : OUT_OF_RANGE) {
            refused("7: input " + value, BAD_ARGUMENT, Shops::busy, shop -> shop.input(value));
            refused("7: input " + value + ", the first one", BAD_ARGUMENT, PoleShop::new, shop -> shop.input(value));
        }
    }

    private static void inputReturnsHowManyThereAreThen() {
        PoleShop shop = new PoleShop();
        for (int count = 1; count <= 20; count++) {
            int c = count;
            answers("7: input " + c, c, () -> shop.input(5));
            refuses("7: refused behind input " + c, BAD_ARGUMENT, () -> shop.input(-10007));
        }
        answers("7: poles count for themselves", 1, () -> shop.pole(5));
    }

    private static void inputIsRefusedIfThereAre20() {
        PoleShop shop = new PoleShop();
        make(shop, 1, 0, 0, 0, 1);
        for (int count = 1; count <= 19; count++) {
            shop.input(100 + count);
        }
        answers("7: the twentieth", 20, () -> shop.input(120));
        refuses("7: the twenty-first", BAD_STATE, () -> shop.input(121));
        refuses("7: and again", BAD_STATE, () -> shop.input(0));
        for (int step = 0; step <= 40; step++) {
            int s = step;
            answers("7: at step " + s, s < 20 ? 101 + s : 0, () -> shop.output(0, s));
            answers("7: anew at step " + s, s < 20 ? 101 + s : 0, () -> shop.outputAnew(0, s));
        }
        for (int count = 1; count <= 16; count++) {
            int c = count;
            answers("7: the poles are not full", c, () -> shop.pole(c));
        }
        answers("7: cleared", 36, shop::clear);
        answers("7: the first one again", 1, () -> shop.input(8));
    }

    // ---- promise 8

    private static void clearTakesAllAway() {
        PoleShop shop = busy();
        answers("8: four and three", 7, shop::clear);
        refuses("8: no pole is left", BAD_STATE, () -> shop.gain(0, 0));
        refuses("8: no pole is left to place", BAD_STATE, () -> shop.placed(3));
        for (int step = 0; step <= 40; step++) {
            int s = step;
            answers("8: no input is left at " + s, 0, () -> shop.output(2, s));
        }
        withPoles(shop, 8, 9, 10);
        refuses("8: three new poles are three", BAD_STATE, () -> shop.gain(0, 0));
        answers("8: two of them place", 4, () -> shop.placed(3));
        polynomial("8: by the new ones alone", shop, 4, false, product(8, 9));
        shop.input(11);
        answers("8: the new input is the first", 11, () -> shop.output(2, 0));
        answers("8: and the only one", 0, () -> shop.output(2, 1));
    }

    private static void clearReturnsHowManyThereWere() {
        answers("8: none", 0, () -> busyWith(0, 0).clear());
        answers("8: a pole", 1, () -> busyWith(1, 0).clear());
        answers("8: an input", 1, () -> busyWith(0, 1).clear());
        answers("8: all of both", 36, () -> busyWith(16, 20).clear());
        PoleShop shop = busyWith(16, 20);
        refuses("8: no more poles", BAD_STATE, () -> shop.pole(1));
        refuses("8: no more inputs", BAD_STATE, () -> shop.input(1));
        answers("8: those that were refused do not count", 36, shop::clear);
        answers("8: cleared twice", 0, shop::clear);
        answers("8: cleared again", 0, shop::clear);
    }

    private static PoleShop busyWith(int poles, int inputs) {
        PoleShop shop = busy();
        shop.clear();
        for (int count = 0; count < inputs; count++) {
            shop.input(count);
        }
        return withPoles(shop, part(0, poles));
    }

    private static void clearLeavesSystems() {
        PoleShop shop = busy();
        shop.placed(3);
        shop.joined(3);
        StringBuilder before = new StringBuilder();
        StringBuilder behind = new StringBuilder();
        for (int system = 0; system < 6; system++) {
            before.append(whole(shop, system));
        }
        shop.clear();
        for (int system = 0; system < 6; system++) {
            behind.append(whole(shop, system));
        }
        CHECK.same("8: the systems are as they were", before.toString(), behind.toString());
        answers("8: the next one", 6, () -> shop.system(1));
    }

    // ---- promise 9

    private static void placedWantsASystemThatThereIs() {
        PoleShop shop = busy();
        answers("9: the first system", 4, () -> shop.placed(0));
        answers("9: the last system", 5, () -> shop.placed(4));
        for (int system : new int[] {-1, 4, 12, LOW, HIGH}) {
            refused("9: system " + system, NO_PLACE, Shops::busy, made -> made.placed(system));
        }
    }

    private static void placedWantsAsManyPolesAsItsOrder() {
        for (int n = 1; n <= 8; n++) {
            int order = n;
            int system = chainOf(n);
            for (int poles = 0; poles < n; poles++) {
                refused("9: order " + n + ", " + poles + " poles", BAD_STATE, delaysWithPoles(n, poles),
                        shop -> shop.placed(system));
            }
            for (int poles : new int[] {n, n + 1, 16}) {
                PoleShop shop = delaysWithPoles(n, poles).get();
                answers("9: order " + n + ", " + poles + " poles", system + 1, () -> shop.placed(system));
                polynomial("9: order " + n + ", by the first " + n, shop, system + 1, false, product(part(0, n)));
                refuses("9: its order is no higher", NO_PLACE, () -> shop.polynomial(system + 1, order + 1, false));
            }
        }
    }

    /** As far as the rank goes, from 0 to one less than the order: A is a chain, b stands so far before its end. */
    private static Supplier<PoleShop> steeredBy(int rank, boolean toSee) {
        return () -> {
            PoleShop shop = busy();
            make(shop, 4, 0, 0, 0, 0, 1, 0, 0, 0, 0, 1, 0, 0, 0, 0, 1, 0, 1, 0, 0, 0, 0, 0, 0, 1, 0);
            shop.set(4, COLUMN, 0, 0, toSee ? 1 : 0);
            shop.set(4, ROW, 0, 3, toSee ? 0 : 1);
            if (toSee && rank > 0) {
                shop.set(4, ROW, 0, rank - 1, 1);
            }
            if (!toSee && rank > 0) {
                shop.set(4, COLUMN, 4 - rank, 0, 1);
            }
            return withPoles(shop, 5, 6, 7, 8);
        };
    }

    private static void placedIsRefusedIfItCannotBeSteered() {
        for (int rank = 0; rank < 4; rank++) {
            asked("9: a rank of " + rank, rank, steeredBy(rank, false), shop -> shop.rank(4, false));
            refused("9: a rank of " + rank, BAD_STATE, steeredBy(rank, false), shop -> shop.placed(4));
        }
        PoleShop shop = steeredBy(4, false).get();
        answers("9: a rank of 4", 4, () -> shop.rank(4, false));
        answers("9: a rank of 4 is placed", 5, () -> shop.placed(4));
        for (int rank = 0; rank < 4; rank++) {
            PoleShop unseen = steeredBy(rank, true).get();
            answers("9: it need not be seen, " + rank, 5, () -> unseen.placed(4));
        }
        refused("9: two poles that are one", BAD_STATE, PolesEdgeTest::twoThatAreOne, made -> made.placed(0));
    }

    /** Order 2, A 3 times the identity: neither steered nor seen, though nothing of b and c is 0. */
    private static PoleShop twoThatAreOne() {
        PoleShop shop = new PoleShop();
        make(shop, 2, 3, 0, 0, 3, 1, 2, 4, 5, 0);
        return withPoles(shop, 1, 2, 3, 4);
    }

    private static void placedLeavesTheRestAsItIs() {
        PoleShop shop = new PoleShop();
        make(shop, 2, 1, 2, 3, 4, 1, 0, 10006, 7, 9);
        withPoles(shop, 1, 2);
        answers("9: placed", 1, () -> shop.placed(0));
        whole("9: b, c and d as they are", shop, 1, -1, -2, 3, 4, 1, 0, 10006, 7, 9);
        answers("9: placed where it is", 2, () -> shop.placed(1));
        whole("9: the same", shop, 2, -1, -2, 3, 4, 1, 0, 10006, 7, 9);
        answers("9: k is 0 then", 0, () -> shop.gain(1, 0));
        whole("9: the system itself", shop, 0, 1, 2, 3, 4, 1, 0, 10006, 7, 9);
    }

    private static void placedIsRefusedIfThereAre12() {
        PoleShop shop = filled(busy(), 11);
        answers("9: the twelfth", 11, () -> shop.placed(3));
        answers("9: the twelfth's order", 2, () -> shop.order(11));
        refuses("9: the thirteenth", BAD_STATE, () -> shop.placed(3));
        refused("9: there are 12", BAD_STATE, () -> full(busy()), made -> made.placed(3));
        refused("9: there are 12, and too few poles", BAD_STATE, () -> full(busy()), made -> made.placed(1));
    }

    // ---- promise 10

    private static void joinedWantsASystemThatThereIs() {
        PoleShop shop = withPoles(busy(), 5, 6, 7, 8);
        answers("10: the first system", 4, () -> shop.joined(0));
        answers("10: the last system", 5, () -> shop.joined(3));
        for (int system : new int[] {-1, 4, 12, LOW, HIGH}) {
            refused("10: system " + system, NO_PLACE, Shops::busy, made -> made.joined(system));
        }
    }

    private static void joinedWantsAnOrderOf4AtMost() {
        for (int n = 1; n <= 4; n++) {
            int order = n;
            PoleShop shop = delaysWithPoles(n, 16).get();
            answers("10: order " + n, 1, () -> shop.joined(0));
            answers("10: order " + n + ", its order", 2 * order, () -> shop.order(1));
        }
        for (int n = 5; n <= 8; n++) {
            refused("10: order " + n, BAD_STATE, delaysWithPoles(n, 16), shop -> shop.joined(2));
        }
    }

    private static void joinedWantsD0() {
        for (int d : new int[] {1, 10006, -1, -10006}) {
            refused("10: d " + d, BAD_STATE, () -> {
                PoleShop shop = busy();
                shop.set(3, THROUGH, 0, 0, d);
                return shop;
            }, shop -> shop.joined(3));
        }
        PoleShop shop = busy();
        shop.set(3, THROUGH, 0, 0, 5);
        refuses("10: d 5", BAD_STATE, () -> shop.joined(3));
        shop.set(3, THROUGH, 0, 0, 0);
        answers("10: d 0 again", 4, () -> shop.joined(3));
        answers("10: its d", 0, () -> shop.at(4, THROUGH, 0, 0));
    }

    private static void joinedWantsTwiceAsManyPolesAsItsOrder() {
        for (int n = 1; n <= 4; n++) {
            for (int poles = 0; poles < 2 * n; poles++) {
                refused("10: order " + n + ", " + poles + " poles", BAD_STATE, delaysWithPoles(n, poles),
                        shop -> shop.joined(0));
            }
            for (int poles : new int[] {2 * n, 2 * n + 1, 16}) {
                PoleShop shop = delaysWithPoles(n, poles).get();
                answers("10: order " + n + ", " + poles + " poles", 1, () -> shop.joined(0));
                polynomial("10: order " + n + ", by the first " + 2 * n, shop, 1, false, product(part(0, 2 * n)));
            }
        }
    }

    private static void joinedIsRefusedIfItCannotBeSteeredOrSeen() {
        for (boolean toSee : new boolean[] {false, true}) {
            for (int rank = 0; rank < 4; rank++) {
                refused("10: a rank of " + rank + ", to see " + toSee, BAD_STATE, steeredBy(rank, toSee),
                        shop -> shop.joined(4));
            }
            PoleShop shop = steeredBy(4, toSee).get();
            answers("10: a rank of 4", 5, () -> shop.joined(4));
        }
        refused("10: two poles that are one", BAD_STATE, PolesEdgeTest::twoThatAreOne, made -> made.joined(0));
    }

    private static void joinedHasThePolesOfBoth() {
        PoleShop shop = new PoleShop();
        make(shop, 1, 0, 5003, 2, 0);
        withPoles(shop, 0, 10006);
        answers("10: joined", 1, () -> shop.joined(0));
        // b k is 0 and c l is 1, as the pole 0 stands already
        whole("10: joined of order 1", shop, 1, 0, 0, 1, -1, 5003, 5003, 2, 0, 0);
        make(shop, 1, 5, 1, 1, 0);
        answers("10: joined", 3, () -> shop.joined(2));
        whole("10: k is 5, l is 6", shop, 3, 5, -5, 6, -6, 1, 1, 1, 0, 0);
    }

    /** Of a chain of 4 delays k is a turned row of coefficients, and l a column of them. */
    private static void joinedOfOrder4HasTheWholeOfBoth() {
        PoleShop shop = new PoleShop();
        delays(shop, 4);
        withPoles(shop, 1, 2, 3, 4, -1, -1, -1, -1);
        answers("10: joined of order 4", 1, () -> shop.joined(0));
        whole("10: joined of order 4", shop, 1,
                0, 0, 0, 0, 10, -35, 50, -24,
                1, 0, 0, 0, 0, 0, 0, 0,
                0, 1, 0, 0, 0, 0, 0, 0,
                0, 0, 1, 0, 0, 0, 0, 0,
                0, 0, 0, 1, 10, -35, 50, -25,
                0, 0, 0, 4, 1, 0, 0, -4,
                0, 0, 0, 6, 0, 1, 0, -6,
                0, 0, 0, 4, 0, 0, 1, -4,
                1, 0, 0, 0, 1, 0, 0, 0,
                0, 0, 0, 1, 0, 0, 0, 0,
                0);
        int two = make(shop, 2, 1, 2, 3, 4, 6, 7, 8, 9, 0);
        answers("10: b twice", two + 1, () -> shop.joined(two));
        for (int place = 0; place < 4; place++) {
            int p = place;
            answers("10: b twice, at " + p, p % 2 == 0 ? 6 : 7, () -> shop.at(two + 1, COLUMN, p, 0));
            answers("10: c and 0, at " + p, p == 0 ? 8 : p == 1 ? 9 : 0, () -> shop.at(two + 1, ROW, 0, p));
        }
    }

    private static void joinedIsRefusedIfThereAre12() {
        PoleShop shop = filled(busy(), 11);
        answers("10: the twelfth", 11, () -> shop.joined(3));
        answers("10: the twelfth's order", 4, () -> shop.order(11));
        refuses("10: the thirteenth", BAD_STATE, () -> shop.joined(3));
        refused("10: there are 12", BAD_STATE, () -> full(busy()), made -> made.joined(3));
        refused("10: there are 12, and too few poles", BAD_STATE, () -> full(busy()), made -> made.joined(0));
    }

    // ---- promises 18 to 20

    private interface Asked {
        int of(PoleShop shop, int system, int place);
    }

    private static void gainWantsASystemAndAPlace() {
        wantsASystemAndAPlace("18: gain", PoleShop::gain, PolesEdgeTest::gainDue);
        wantsASystemAndAPlace("19: gainAnew", PoleShop::gainAnew, PolesEdgeTest::gainDue);
    }

    /** What a chain of n delays, whose polynomial is x to the power n, is steered with. */
    private static int gainDue(int n, int place) {
        return product(part(0, n))[n - 1 - place];
    }

    private static int observerDue(int n, int place) {
        return product(part(n, 2 * n))[place];
    }

    private static void wantsASystemAndAPlace(String what, Asked call, IntBinaryOperator due) {
        for (int n = 1; n <= 8; n++) {
            int last = n - 1;
            int system = chainOf(n);
            asked(what + " of order " + n + ", first place", due.applyAsInt(n, 0), delaysWithPoles(n, 16),
                    shop -> call.of(shop, system, 0));
            asked(what + " of order " + n + ", last place", due.applyAsInt(n, last), delaysWithPoles(n, 16),
                    shop -> call.of(shop, system, last));
            for (int place : new int[] {-1, n, 8, LOW, HIGH}) {
                refused(what + " of order " + n + ", place " + place, NO_PLACE, delaysWithPoles(n, 16),
                        made -> call.of(made, system, place));
                refused(what + " of order " + n + ", place " + place + ", no poles", NO_PLACE, delaysWithPoles(n, 0),
                        made -> call.of(made, system, place));
            }
        }
        for (int system : new int[] {-1, 4, 12, LOW, HIGH}) {
            refused(what + " of system " + system, NO_PLACE, Shops::busy, made -> call.of(made, system, 0));
        }
        refused(what + " of the thirteenth", NO_PLACE, () -> full(busy()), made -> call.of(made, 12, 0));
        refused(what + " of the twelfth, which is 0", BAD_STATE, () -> full(busy()), made -> call.of(made, 11, 0));
    }

    private static void gainWantsAsManyPolesAsItsOrder() {
        gainWantsPoles("18: gain", PoleShop::gain);
        gainWantsPoles("19: gainAnew", PoleShop::gainAnew);
    }

    private static void gainWantsPoles(String what, Asked call) {
        for (int n = 1; n <= 8; n++) {
            int system = chainOf(n);
            for (int poles = 0; poles < n; poles++) {
                refused(what + ", order " + n + ", " + poles + " poles", BAD_STATE, delaysWithPoles(n, poles),
                        shop -> call.of(shop, system, 0));
            }
            for (int poles : new int[] {n, n + 1, 16}) {
                for (int place = 0; place < n; place++) {
                    int p = place;
                    asked(what + " " + p + ", order " + n + ", " + poles + " poles", gainDue(n, p),
                            delaysWithPoles(n, poles), shop -> call.of(shop, system, p));
                }
            }
        }
    }

    private static void gainIsRefusedIfItCannotBeSteered() {
        for (int rank = 0; rank < 4; rank++) {
            refused("18: gain by a rank of " + rank, BAD_STATE, steeredBy(rank, false), shop -> shop.gain(4, 0));
            refused("19: gainAnew by a rank of " + rank, BAD_STATE, steeredBy(rank, false),
                    shop -> shop.gainAnew(4, 0));
            asked("18: gain, it need not be seen, " + rank, -10, steeredBy(rank, true), shop -> shop.gain(4, 0));
            asked("19: gainAnew, it need not be seen, " + rank, -10, steeredBy(rank, true),
                    shop -> shop.gainAnew(4, 0));
        }
        asked("18: gain by a rank of 4", -10, steeredBy(4, false), shop -> shop.gain(4, 0));
        asked("19: gainAnew by a rank of 4", -10, steeredBy(4, false), shop -> shop.gainAnew(4, 0));
        refused("18: two poles that are one", BAD_STATE, PolesEdgeTest::twoThatAreOne, made -> made.gain(0, 1));
        refused("19: two poles that are one", BAD_STATE, PolesEdgeTest::twoThatAreOne, made -> made.gainAnew(0, 1));
        anyBSteersOrder1("18: gain", PoleShop::gain, COLUMN);
        anyBSteersOrder1("19: gainAnew", PoleShop::gainAnew, COLUMN);
    }

    /** What steers (or sees) a system of order 1 with A 3 and the poles 2 and 2, times b (or c), is 1. */
    private static void anyBSteersOrder1(String what, Asked call, int set) {
        PoleShop shop = new PoleShop();
        int wrong = 0;
        for (int b = 1; b <= 10006; b++) {
            if (b % 250 == 1) {
                shop = withPoles(new PoleShop(), 2, 2);
                make(shop, 1, 3, 1, 1, 0);
            }
            shop.set(0, set, 0, 0, b);
            wrong += call.of(shop, 0, 0) * b % 10007 == 1 ? 0 : 1;
        }
        CHECK.same(what + ", wrong ones of all numbers", "0", Integer.toString(wrong));
        PoleShop last = shop;
        last.set(0, set, 0, 0, 0);
        refuses(what + ", by 0", BAD_STATE, () -> call.of(last, 0, 0));
    }

    private static void observerWantsASystemAndAPlace() {
        wantsASystemAndAPlace("20: observer", PoleShop::observer, PolesEdgeTest::observerDue);
    }

    private static void observerWantsTwiceAsManyPolesAsItsOrder() {
        for (int n = 1; n <= 8; n++) {
            int system = chainOf(n);
            for (int poles = 0; poles < 2 * n; poles++) {
                refused("20: order " + n + ", " + poles + " poles", BAD_STATE, delaysWithPoles(n, poles),
                        shop -> shop.observer(system, 0));
            }
            for (int poles : new int[] {2 * n, Math.min(2 * n + 1, 16), 16}) {
                for (int place = 0; place < n; place++) {
                    int p = place;
                    asked("20: observer " + p + ", order " + n + ", " + poles + " poles", observerDue(n, p),
                            delaysWithPoles(n, poles), shop -> shop.observer(system, p));
                }
            }
        }
    }

    private static void observerIsRefusedIfItCannotBeSeen() {
        for (int rank = 0; rank < 4; rank++) {
            asked("20: a rank of " + rank + " to see", rank, steeredBy(rank, true), shop -> shop.rank(4, true));
            refused("20: a rank of " + rank + " to see", BAD_STATE, steeredBy(rank, true), shop -> shop.observer(4, 0));
            asked("20: it need not be steered, " + rank, 5 * 6 * 7 * 8, steeredBy(rank, false),
                    shop -> shop.observer(4, 0));
        }
        asked("20: a rank of 4 to see", 5 * 6 * 7 * 8, steeredBy(4, true), shop -> shop.observer(4, 0));
        refused("20: two poles that are one", BAD_STATE, PolesEdgeTest::twoThatAreOne, made -> made.observer(0, 1));
        anyBSteersOrder1("20: observer", PoleShop::observer, ROW);
    }
}
