import java.util.Arrays;
import java.util.function.Supplier;
import java.util.function.ToIntFunction;

/** The boundary cases that the document's Terms name, a method for each sentence. */
public final class TermsEdgeTest extends Shops {
    private TermsEdgeTest() {
    }

    public static void main(String[] args) {
        whatIsPlacedIsWhereItWasAskedToTheLastNumber();
        numbersAre0To10006();
        numbersOfAnswersAre0To10006();
        theQuotientIsTheNumberOfWhichBTimesIsA();
        whatIsToldBelow0IsTakenAsTheRemainder();
        systemsAreNumberedFrom0();
        systemsAreAtMost12();
        whatIsMadeOfOthersDoesNotChangeWithThem();
        othersDoNotChangeWithWhatIsMadeOfThem();
        whatIsPlacedDoesNotChangeWithThePoles();
        aSystemHasAnOrder1To8();
        theStateIs0AtFirst();
        polesAreAtMost16();
        theExceptionThatIsNamedFirstIsThrown();
        anObjectIsUsedForAtMost512Calls();
        CHECK.end("TermsEdgeTest");
    }

    private static void whatIsPlacedIsWhereItWasAskedToTheLastNumber() {
        int[][] asked = {
            {0, 0, 0, 0, 0, 0, 0, 0},
            {1, 10006, -1, -10006, 0, 5003, 5004, -5004},
            {3, 3, 3, 3, 7000, 7000, 9999, 1},
            {2, 4, 8, 16, 32, 64, 128, 256},
        };
        for (int n = 1; n <= 8; n++) {
            for (int[] poles : asked) {
                PoleShop shop = new PoleShop();
                int system = dense(shop, n);
                answers("order " + n + " can be steered", n, () -> shop.rank(system, false));
                answers("order " + n + " can be seen", n, () -> shop.rank(system, true));
                withPoles(shop, poles);
                answers("order " + n + " is placed", system + 1, () -> shop.placed(system));
                polynomial("placed of order " + n, shop, system + 1, false,
                        product(Arrays.copyOf(poles, n)));
            }
        }
    }

    private static void numbersAre0To10006() {
        int[][] pairs = {{10006, 1}, {10006, 10006}, {5003, 5004}, {5003, 5003}, {2, 5003}, {2, 5004}, {0, 10006}};
        for (int[] pair : pairs) {
            PoleShop shop = new PoleShop();
            make(shop, 1, 0, 1, 0, pair[0]);
            make(shop, 1, 0, 1, 1, pair[1]);
            shop.join(0, 1, false);
            shop.join(0, 1, true);
            String told = pair[0] + " and " + pair[1];
            answers(told + ", together", remainder(pair[0] + pair[1]), () -> shop.at(2, THROUGH, 0, 0));
            answers(told + ", times", remainder(pair[0] * pair[1]), () -> shop.at(3, THROUGH, 0, 0));
            answers(told + ", b", pair[0], () -> shop.at(3, COLUMN, 1, 0));
        }
        PoleShop shop = new PoleShop();
        make(shop, 1, 0, 1, 1, 0);
        make(shop, 1, 1, 1, 1, 0);
        shop.loop(0, 1);
        shop.loop(1, 1);
        answers("0 less 1", 10006, () -> shop.at(2, SQUARE, 0, 0));
        answers("1 less 1", 0, () -> shop.at(3, SQUARE, 0, 0));
    }

    private static void numbersOfAnswersAre0To10006() {
        PoleShop shop = new PoleShop();
        int[] all = new int[25];
        Arrays.fill(all, 10006);
        make(shop, 4, all);
        answers("h 0", 10006, () -> shop.number(0, 0));
        answers("h 1 is 4", 4, () -> shop.number(0, 1));
        answers("h 2 is -16", 9991, () -> shop.number(0, 2));
        withInputs(shop, 10006, 10006);
        answers("output at 1 is 1 less 4", 10004, () -> shop.output(0, 1));
        answers("outputAnew at 1", 10004, () -> shop.outputAnew(0, 1));
        answers("cost of the highest q, no steps", 10007 - 16, () -> shop.cost(0, 10006, 10006, 0));
        for (int value : new int[] {0, 1, 10006}) {
            shop.system(1);
            int system = shop.join(0, 0, false) - 1;
            shop.set(system, SQUARE, 0, 0, value);
            polynomial("x less " + value, shop, system, false, -value, 1);
        }
        shop.set(1, COLUMN, 0, 0, 1);
        for (int value : new int[] {0, 1, 10006}) {
            shop.clear();
            shop.pole(value);
            answers("0 less the pole " + value, remainder(-value), () -> shop.gain(1, 0));
            answers("0 less the pole " + value, remainder(-value), () -> shop.gainAnew(1, 0));
        }
    }

    /** With d 1 and the gain s less 1, the row c of 1 becomes the quotient of 1 by s. */
    private static void theQuotientIsTheNumberOfWhichBTimesIsA() {
        PoleShop shop = new PoleShop();
        int loops = 0;
        int wrong = 0;
        for (int s = 1; s <= 10006; s++) {
            if (loops % 11 == 0) {
                shop = new PoleShop();
                make(shop, 1, 0, 1, 1, 1);
            }
            loops++;
            int quotient = shop.at(shop.loop(0, s - 1), ROW, 0, 0);
            wrong += quotient >= 0 && quotient <= 10006 && quotient * s % 10007 == 1 ? 0 : 1;
        }
        CHECK.same("quotients of 1 that are wrong", "0", Integer.toString(wrong));
        PoleShop last = new PoleShop();
        make(last, 1, 0, 6, 10006, 1);
        last.loop(0, 10005);
        whole("by -1", last, 1, 12, -6, 1, -1);
    }

    private static void whatIsToldBelow0IsTakenAsTheRemainder() {
        int[][] told = {{-1, 10006}, {-10006, 1}, {-5003, 5004}, {0, 0}, {10006, 10006}};
        for (int[] pair : told) {
            PoleShop shop = new PoleShop();
            make(shop, 1, 0, 1, 1, 0);
            for (int what = SQUARE; what <= THROUGH; what++) {
                int w = what;
                shop.set(0, w, 0, 0, pair[0]);
                answers("set of " + w + " to " + pair[0], pair[1], () -> shop.at(0, w, 0, 0));
                answers("before, " + pair[0], pair[1], () -> shop.set(0, w, 0, 0, w == THROUGH ? 0 : 1));
            }
            shop.pole(pair[0]);
            shop.set(0, SQUARE, 0, 0, 0);
            answers("pole " + pair[0], remainder(-pair[1]), () -> shop.gain(0, 0));
            shop.loop(0, pair[0]);
            answers("loop with " + pair[0], remainder(-pair[1]), () -> shop.at(1, SQUARE, 0, 0));
            shop.input(pair[0]);
            answers("input " + pair[0], pair[1], () -> shop.output(0, 1));
        }
    }

    private static void systemsAreNumberedFrom0() {
        PoleShop shop = withPoles(new PoleShop(), 1, 2);
        refuses("no system 0", NO_PLACE, () -> shop.order(0));
        answers("the first one", 0, () -> make(shop, 1, 5, 1, 1, 0));
        answers("by join", 1, () -> shop.join(0, 0, true));
        answers("by loop", 2, () -> shop.loop(0, 3));
        answers("by placed", 3, () -> shop.placed(0));
        answers("by joined", 4, () -> shop.joined(0));
        answers("by system", 5, () -> shop.system(4));
        answers("side by side", 6, () -> shop.join(0, 5, false));
        int[] orders = {1, 2, 1, 1, 2, 4, 5};
        for (int system = 0; system < 7; system++) {
            int s = system;
            answers("order of " + s, orders[s], () -> shop.order(s));
        }
        refuses("no system 7", NO_PLACE, () -> shop.order(7));
        refuses("no system -1", NO_PLACE, () -> shop.order(-1));
    }

    private static void systemsAreAtMost12() {
        lastSystem("system", shop -> shop.system(4));
        lastSystem("join in series", shop -> shop.join(0, 0, true));
        lastSystem("join side by side", shop -> shop.join(3, 0, false));
        lastSystem("loop", shop -> shop.loop(3, 5));
        lastSystem("placed", shop -> shop.placed(3));
        lastSystem("joined", shop -> shop.joined(3));
    }

    private static void lastSystem(String what, ToIntFunction<PoleShop> call) {
        PoleShop shop = filled(busy(), 11);
        answers(what + " makes the twelfth", 11, () -> call.applyAsInt(shop));
        answers(what + ", its order is that of one made before", busyOrderBy(call), () -> shop.order(11));
        refuses(what + " makes no thirteenth behind it", BAD_STATE, () -> call.applyAsInt(shop));
        refused(what + " makes no thirteenth", BAD_STATE, () -> full(busy()), call);
    }

    private static int busyOrderBy(ToIntFunction<PoleShop> call) {
        PoleShop shop = busy();
        return shop.order(call.applyAsInt(shop));
    }

    private interface Maker {
        int make(PoleShop shop);
    }

    private static final Maker[] MAKERS = {
        shop -> shop.join(0, 0, true), shop -> shop.join(0, 0, false), shop -> shop.join(0, 1, true),
        shop -> shop.join(1, 0, true), shop -> shop.join(0, 1, false), shop -> shop.loop(0, 0),
        shop -> shop.loop(0, 3), shop -> shop.placed(0), shop -> shop.joined(0),
    };

    private static PoleShop twoSystems() {
        PoleShop shop = withPoles(example(), 1, 2, 3, 4);
        make(shop, 2, 5, 6, 7, 8, 1, 2, 3, 4, 0);
        return shop;
    }

    private static void setAll(PoleShop shop, int system, int value) {
        int n = shop.order(system);
        for (int i = 0; i < n; i++) {
            for (int j = 0; j < n; j++) {
                shop.set(system, SQUARE, i, j, value + i + j);
            }
            shop.set(system, COLUMN, i, 0, value + i);
            shop.set(system, ROW, 0, i, value + i);
        }
        shop.set(system, THROUGH, 0, 0, value);
    }

    private static void whatIsMadeOfOthersDoesNotChangeWithThem() {
        for (int i = 0; i < MAKERS.length; i++) {
            PoleShop shop = twoSystems();
            int made = MAKERS[i].make(shop);
            String before = whole(shop, made);
            setAll(shop, 0, 700);
            setAll(shop, 1, 800);
            CHECK.same("made by " + i + ", the others set", before, whole(shop, made));
        }
    }

    private static void othersDoNotChangeWithWhatIsMadeOfThem() {
        for (int i = 0; i < MAKERS.length; i++) {
            PoleShop shop = twoSystems();
            String before = whole(shop, 0) + whole(shop, 1);
            int made = MAKERS[i].make(shop);
            CHECK.same("made by " + i, before, whole(shop, 0) + whole(shop, 1));
            int second = MAKERS[i].make(shop);
            String secondBefore = whole(shop, second);
            setAll(shop, made, 900);
            CHECK.same("made by " + i + " and set", before, whole(shop, 0) + whole(shop, 1));
            CHECK.same("made by " + i + " again", secondBefore, whole(shop, second));
        }
    }

    private static void whatIsPlacedDoesNotChangeWithThePoles() {
        PoleShop shop = twoSystems();
        shop.placed(0);
        shop.joined(0);
        String before = whole(shop, 2) + whole(shop, 3);
        shop.clear();
        CHECK.same("the poles are cleared", before, whole(shop, 2) + whole(shop, 3));
        withPoles(shop, 9, 8, 7, 6);
        CHECK.same("and others are typed", before, whole(shop, 2) + whole(shop, 3));
        answers("which place anew", 4, () -> shop.placed(0));
        polynomial("placed anew", shop, 4, false, product(9, 8));
        polynomial("placed before", shop, 2, false, product(1, 2));
    }

    private static void aSystemHasAnOrder1To8() {
        for (int n = 1; n <= 8; n++) {
            PoleShop shop = new PoleShop();
            int order = n;
            int system = delays(shop, n);
            answers("order " + n, n, () -> shop.order(system));
            answers("order " + n + ", last of the square", 0, () -> shop.at(system, SQUARE, order - 1, order - 1));
            refuses("order " + n + ", row behind the last", NO_PLACE, () -> shop.at(system, SQUARE, order, 0));
            refuses("order " + n + ", column behind the last", NO_PLACE, () -> shop.at(system, SQUARE, 0, order));
            answers("order " + n + ", last of the column", order == 1 ? 1 : 0,
                    () -> shop.at(system, COLUMN, order - 1, 0));
            refuses("order " + n + ", behind the column", NO_PLACE, () -> shop.at(system, COLUMN, order, 0));
            answers("order " + n + ", last of the row", 1, () -> shop.at(system, ROW, 0, order - 1));
            refuses("order " + n + ", behind the row", NO_PLACE, () -> shop.at(system, ROW, 0, order));
        }
        int[][] sums = {{1, 7}, {7, 1}, {2, 6}, {6, 2}, {3, 5}, {5, 3}, {4, 4}};
        for (int[] sum : sums) {
            for (boolean inSeries : new boolean[] {true, false}) {
                String told = sum[0] + " and " + sum[1] + (inSeries ? " in series" : " side by side");
                PoleShop shop = new PoleShop();
                int one = delays(shop, sum[0]);
                int other = delays(shop, sum[1]);
                answers(told, 8, () -> shop.order(shop.join(one, other, inSeries)));
                Supplier<PoleShop> longer = () -> {
                    PoleShop made = busy();
                    delays(made, sum[0]);
                    return made;
                };
                int last = sum[0] > 4 ? 6 : 4;
                refused(told + ", one and 8", BAD_STATE, longer, made -> made.join(last, 1, inSeries));
                refused(told + ", 8 and one", BAD_STATE, longer, made -> made.join(1, last, inSeries));
            }
        }
    }

    private static void theStateIs0AtFirst() {
        PoleShop shop = new PoleShop();
        make(shop, 2, 1, 2, 3, 4, 5, 6, 7, 8, 9);
        for (int step = 0; step <= 40; step++) {
            int s = step;
            answers("no inputs, step " + s, 0, () -> shop.output(0, s));
            answers("no inputs, anew, step " + s, 0, () -> shop.outputAnew(0, s));
        }
        withInputs(shop, 1, 2);
        answers("at step 0 it is d times the input", 9, () -> shop.output(0, 0));
        answers("at step 0, asked again", 9, () -> shop.output(0, 0));
        answers("at step 1 c b is added", 101, () -> shop.output(0, 1));
        answers("at step 0, asked behind it", 9, () -> shop.output(0, 0));
    }

    private static void polesAreAtMost16() {
        PoleShop shop = busy();
        for (int count = 5; count <= 16; count++) {
            int value = count;
            answers("pole " + count, count, () -> shop.pole(value));
        }
        answers("the sixteenth counts", remainder(-9 - 10 - 11 - 12 - 13 - 14 - 15 - 16), () -> shop.observer(1, 7));
        refuses("pole 17", BAD_STATE, () -> shop.pole(1));
        answers("the sixteenth stays", remainder(-9 - 10 - 11 - 12 - 13 - 14 - 15 - 16), () -> shop.observer(1, 7));
        answers("16 poles and 3 inputs", 19, shop::clear);
    }

    private static PoleShop fullOfAll() {
        PoleShop shop = full(busy());
        shop.set(11, THROUGH, 0, 0, 1);
        return withInputs(withPoles(shop, 5, 6, 7, 8, 9, 10, 11, 12, 13, 14, 15, 16),
                8, 9, 10, 11, 12, 13, 14, 15, 16, 17, 18, 19, 20, 21, 22, 23, 24);
    }

    private static void theExceptionThatIsNamedFirstIsThrown() {
        Supplier<PoleShop> made = TermsEdgeTest::fullOfAll;
        refused("system: order, there are 12", BAD_ARGUMENT, made, shop -> shop.system(5));
        refused("set: system, value", NO_PLACE, made, shop -> shop.set(12, SQUARE, 0, 0, 10007));
        refused("set: what, value", NO_PLACE, made, shop -> shop.set(0, 4, 0, 0, 10007));
        refused("set: row, value", NO_PLACE, made, shop -> shop.set(0, COLUMN, 4, 0, 10007));
        refused("set: column, value", NO_PLACE, made, shop -> shop.set(0, ROW, 0, 4, -10007));
        refused("join: one, there are 12", NO_PLACE, made, shop -> shop.join(-1, 0, true));
        refused("join: other, order 16", NO_PLACE, made, shop -> shop.join(1, 12, false));
        refused("loop: system, gain", NO_PLACE, made, shop -> shop.loop(12, 10007));
        refused("loop: system, there are 12", NO_PLACE, made, shop -> shop.loop(12, 0));
        refused("loop: gain, there are 12", BAD_ARGUMENT, made, shop -> shop.loop(0, 10007));
        refused("loop: gain that makes s 0", BAD_ARGUMENT, made, shop -> shop.loop(11, 10007 + 10006));
        refused("pole: value, there are 16", BAD_ARGUMENT, made, shop -> shop.pole(10007));
        refused("input: value, there are 20", BAD_ARGUMENT, made, shop -> shop.input(-10007));
        refused("placed: system, there are 12", NO_PLACE, made, shop -> shop.placed(12));
        refused("joined: system, there are 12", NO_PLACE, made, shop -> shop.joined(-1));
        refused("number: system, k", NO_PLACE, made, shop -> shop.number(12, 41));
        refused("output: system, step", NO_PLACE, made, shop -> shop.output(12, -1));
        refused("outputAnew: system, step", NO_PLACE, made, shop -> shop.outputAnew(12, 41));
        refused("gain: place, cannot be steered", NO_PLACE, made, shop -> shop.gain(2, 1));
        refused("gainAnew: place, cannot be steered", NO_PLACE, made, shop -> shop.gainAnew(2, 1));
        refused("observer: place, cannot be seen", NO_PLACE, made, shop -> shop.observer(2, 1));
        refused("gain: place, too few poles", NO_PLACE, Shops::busy, shop -> shop.gain(1, 8));
        refused("gainAnew: place, too few poles", NO_PLACE, Shops::busy, shop -> shop.gainAnew(1, -1));
        refused("observer: place, too few poles", NO_PLACE, Shops::busy, shop -> shop.observer(1, 8));
        for (int[] wrong : new int[][] {{-1, 0, 1}, {10007, 0, 1}, {0, -1, 1}, {0, 10007, 1}, {0, 0, -1}, {0, 0, 21}}) {
            int q = wrong[0];
            int r = wrong[1];
            int steps = wrong[2];
            refused("cost: system, argument", NO_PLACE, made, shop -> shop.cost(12, q, r, steps));
            refused("costAnew: system, argument", NO_PLACE, made, shop -> shop.costAnew(-1, q, r, steps));
            refused("cost: argument, m is 0", BAD_ARGUMENT, made, shop -> shop.cost(2, q, r, steps));
            refused("costAnew: argument, m is 0", BAD_ARGUMENT, made, shop -> shop.costAnew(2, q, r, steps));
        }
        refused("cost: system, m is 0", NO_PLACE, made, shop -> shop.cost(12, 0, 0, 1));
        refused("costAnew: system, m is 0", NO_PLACE, made, shop -> shop.costAnew(12, 0, 0, 1));
    }

    private static void anObjectIsUsedForAtMost512Calls() {
        PoleShop shop = new PoleShop();
        make(shop, 1, 1, 1, 1, 0); // 5 calls
        for (int call = 6; call <= 511; call++) {
            int value = call;
            answers("call " + call, call == 6 ? 0 : call - 1, () -> shop.set(0, THROUGH, 0, 0, value));
        }
        answers("call 512", 511, () -> shop.at(0, THROUGH, 0, 0));
        PoleShop typing = new PoleShop();
        for (int turn = 0; turn < 13; turn++) {
            for (int count = 1; count <= 16; count++) {
                int c = count;
                answers("pole in turn " + turn, c, () -> typing.pole(c));
            }
            for (int count = 1; count <= 20; count++) {
                int c = count;
                answers("input in turn " + turn, c, () -> typing.input(c));
            }
            answers("clear in turn " + turn, 36, typing::clear);
        }
    }
}
