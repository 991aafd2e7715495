import java.util.function.Supplier;

/** The boundary cases of promises 1 to 5, 11 and 12: systems and what is set, made and read in them. */
public final class SystemsEdgeTest extends Shops {
    private static final int[] OUT_OF_RANGE = {10007, -10007, 10008, -10008, LOW, HIGH};

    private SystemsEdgeTest() {
    }

    public static void main(String[] args) {
        opensAWorkshopWithoutSystems();
        opensAWorkshopWithoutPolesAndInputs();
        orderIs1To4();
        aNewSystemIsAllOf0();
        systemIsRefusedIfThereAre12();
        setWantsASystemThatThereIs();
        setWantsSquareToThrough();
        setWantsARowWhereItMatters();
        setWantsAColumnWhereItMatters();
        setWantsAValueFromMinus10006To10006();
        setReturnsTheNumberBefore();
        joinWantsTwoSystemsThatThereAre();
        joinTakesTheSameOneTwice();
        joinIsRefusedIfItsOrderWouldBeAbove8();
        joinInSeriesPutsTheSecondStateBehindTheFirst();
        joinSideBySideAddsTheOutputs();
        joinIsRefusedIfThereAre12();
        loopWantsASystemThatThereIs();
        loopWantsAGainFromMinus10006To10006();
        loopIsRefusedIfSIs0();
        loopHasTheOrderOfTheOther();
        loopIsRefusedIfThereAre12();
        atWantsWhatSetWants();
        atReadsTheLastPlacesOfEachOrder();
        orderWantsASystemThatThereIs();
        CHECK.end("SystemsEdgeTest");
    }

    // ---- promise 1

    private static void opensAWorkshopWithoutSystems() {
        Supplier<PoleShop> made = PoleShop::new;
        for (int system : new int[] {0, 1, 11, -1, LOW, HIGH}) {
            String told = "1: new, system " + system + ": ";
            refused(told + "set", NO_PLACE, made, shop -> shop.set(system, THROUGH, 0, 0, 1));
            refused(told + "join", NO_PLACE, made, shop -> shop.join(system, system, true));
            refused(told + "loop", NO_PLACE, made, shop -> shop.loop(system, 1));
            refused(told + "placed", NO_PLACE, made, shop -> shop.placed(system));
            refused(told + "joined", NO_PLACE, made, shop -> shop.joined(system));
            refused(told + "at", NO_PLACE, made, shop -> shop.at(system, THROUGH, 0, 0));
            refused(told + "order", NO_PLACE, made, shop -> shop.order(system));
            refused(told + "polynomial", NO_PLACE, made, shop -> shop.polynomial(system, 0, false));
            refused(told + "rank", NO_PLACE, made, shop -> shop.rank(system, false));
            refused(told + "number", NO_PLACE, made, shop -> shop.number(system, 0));
            refused(told + "output", NO_PLACE, made, shop -> shop.output(system, 0));
            refused(told + "outputAnew", NO_PLACE, made, shop -> shop.outputAnew(system, 0));
            refused(told + "gain", NO_PLACE, made, shop -> shop.gain(system, 0));
            refused(told + "gainAnew", NO_PLACE, made, shop -> shop.gainAnew(system, 0));
            refused(told + "observer", NO_PLACE, made, shop -> shop.observer(system, 0));
            refused(told + "cost", NO_PLACE, made, shop -> shop.cost(system, 1, 1, 1));
            refused(told + "costAnew", NO_PLACE, made, shop -> shop.costAnew(system, 1, 1, 1));
            refused(told + "least", NO_PLACE, made, shop -> shop.least(system));
            refused(told + "leastAnew", NO_PLACE, made, shop -> shop.leastAnew(system));
        }
        answers("1: the first system is 0", 0, () -> new PoleShop().system(1));
    }

    private static void opensAWorkshopWithoutPolesAndInputs() {
        answers("1: clear of a new one", 0, () -> new PoleShop().clear());
        answers("1: the first pole", 1, () -> new PoleShop().pole(0));
        answers("1: the first input", 1, () -> new PoleShop().input(0));
        PoleShop shop = new PoleShop();
        make(shop, 1, 1, 1, 1, 1);
        refuses("1: no pole to place", BAD_STATE, () -> shop.gain(0, 0));
        for (int step = 0; step <= 40; step++) {
            int s = step;
            answers("1: no input at " + s, 0, () -> shop.output(0, s));
        }
        PoleShop other = withPoles(new PoleShop(), 1);
        other.system(1);
        answers("1: another one has no poles", 0, () -> new PoleShop().clear());
        answers("1: nor does it give any", 0, shop::clear);
        refuses("1: nor systems", NO_PLACE, () -> new PoleShop().order(0));
    }

    // ---- promise 2

    private static void orderIs1To4() {
        for (int order = 1; order <= 4; order++) {
            int n = order;
            PoleShop shop = busy();
            answers("2: order " + n, 4, () -> shop.system(n));
            answers("2: order " + n + " is told", n, () -> shop.order(4));
            answers("2: the next one", 5, () -> shop.system(n));
        }
        for (int order : new int[] {0, 5, -1, -4, 8, 9, LOW, HIGH}) {
            refused("2: order " + order, BAD_ARGUMENT, Shops::busy, shop -> shop.system(order));
            refused("2: order " + order + ", the first one", BAD_ARGUMENT, PoleShop::new, shop -> shop.system(order));
        }
    }

    private static void aNewSystemIsAllOf0() {
        for (int order = 1; order <= 4; order++) {
            int n = order;
            PoleShop shop = withInputs(new PoleShop(), 3, 4);
            shop.system(n);
            whole("2: all of it 0, order " + n, shop, 0, new int[n * n + 2 * n + 1]);
            answers("2: its rank", 0, () -> shop.rank(0, false));
            answers("2: its rank to see", 0, () -> shop.rank(0, true));
            answers("2: its output", 0, () -> shop.output(0, 1));
            answers("2: its highest coefficient", 1, () -> shop.polynomial(0, n, false));
            answers("2: its lowest coefficient", 0, () -> shop.polynomial(0, 0, false));
            answers("2: its least order", 0, () -> shop.least(0));
            refuses("2: it cannot be steered", BAD_STATE, () -> withPoles(shop, 1, 2, 3, 4).gain(0, 0));
        }
        PoleShop behind = busy();
        refuses("2: a join is refused", BAD_STATE, () -> behind.join(1, 1, true));
        refuses("2: a joined one is refused", BAD_STATE, () -> behind.joined(0));
        behind.system(4);
        whole("2: all of it 0, behind what was refused", behind, 4, new int[25]);
    }

    private static void systemIsRefusedIfThereAre12() {
        PoleShop shop = new PoleShop();
        for (int number = 0; number < 12; number++) {
            int due = number;
            answers("2: system " + due, due, () -> shop.system(1 + due % 4));
        }
        refuses("2: the thirteenth", BAD_STATE, () -> shop.system(1));
        refuses("2: and again", BAD_STATE, () -> shop.system(4));
        answers("2: the twelfth is there", 4, () -> shop.order(11));
        refuses("2: the thirteenth is not", NO_PLACE, () -> shop.order(12));
        refused("2: there are 12", BAD_STATE, () -> full(busy()), made -> made.system(1));
    }

    // ---- promise 3

    private static void setWantsASystemThatThereIs() {
        PoleShop shop = busy();
        answers("3: the first system", 0, () -> shop.set(0, THROUGH, 0, 0, 5));
        answers("3: the last system", 0, () -> shop.set(3, THROUGH, 0, 0, 6));
        answers("3: the first system is set", 5, () -> shop.at(0, THROUGH, 0, 0));
        answers("3: the last system is set", 6, () -> shop.at(3, THROUGH, 0, 0));
        PoleShop full = full(busy());
        answers("3: the twelfth system", 0, () -> full.set(11, SQUARE, 0, 0, 7));
        answers("3: the twelfth system is set", 7, () -> full.at(11, SQUARE, 0, 0));
        for (int system : new int[] {-1, 4, 11, 12, LOW, HIGH}) {
            refused("3: system " + system, NO_PLACE, Shops::busy, made -> made.set(system, THROUGH, 0, 0, 5));
        }
        refused("3: system 12 of 12", NO_PLACE, () -> full(busy()), made -> made.set(12, THROUGH, 0, 0, 5));
    }

    private static void setWantsSquareToThrough() {
        PoleShop shop = busy();
        for (int what = SQUARE; what <= THROUGH; what++) {
            int w = what;
            shop.set(3, w, 1, 1, 70 + w);
            answers("3: what " + w, 70 + w, () -> shop.at(3, w, 1, 1));
        }
        whole("3: each of the four for itself", shop, 3, 1, 2, 3, 70, 1, 71, 0, 72, 73);
        for (int what : new int[] {-1, 4, LOW, HIGH}) {
            refused("3: what " + what, NO_PLACE, Shops::busy, made -> made.set(3, what, 0, 0, 5));
        }
    }

    private static void setWantsARowWhereItMatters() {
        for (int row : new int[] {0, 1}) {
            PoleShop shop = busy();
            shop.set(3, SQUARE, row, 0, 50);
            shop.set(3, COLUMN, row, 0, 60);
            answers("3: square's row " + row, 50, () -> shop.at(3, SQUARE, row, 0));
            answers("3: column's row " + row, 60, () -> shop.at(3, COLUMN, row, 0));
        }
        for (int row : new int[] {-1, 2, 8, LOW, HIGH}) {
            refused("3: square's row " + row, NO_PLACE, Shops::busy, shop -> shop.set(3, SQUARE, row, 0, 5));
            refused("3: column's row " + row, NO_PLACE, Shops::busy, shop -> shop.set(3, COLUMN, row, 0, 5));
            PoleShop shop = busy();
            answers("3: row's row " + row, 1, () -> shop.set(3, ROW, row, 1, 5));
            answers("3: d's row " + row, 0, () -> shop.set(3, THROUGH, row, 1, 6));
            whole("3: row " + row + " does not matter", shop, 3, 1, 2, 3, 4, 1, 0, 0, 5, 6);
        }
        refused("3: square's row 8 of 8", NO_PLACE, Shops::busy, shop -> shop.set(1, SQUARE, 8, 0, 5));
        refused("3: column's row 8 of 8", NO_PLACE, Shops::busy, shop -> shop.set(1, COLUMN, 8, 0, 5));
    }

    private static void setWantsAColumnWhereItMatters() {
        for (int column : new int[] {0, 1}) {
            PoleShop shop = busy();
            shop.set(3, SQUARE, 0, column, 50);
            shop.set(3, ROW, 0, column, 60);
            answers("3: square's column " + column, 50, () -> shop.at(3, SQUARE, 0, column));
            answers("3: row's column " + column, 60, () -> shop.at(3, ROW, 0, column));
        }
        for (int column : new int[] {-1, 2, 8, LOW, HIGH}) {
            refused("3: square's column " + column, NO_PLACE, Shops::busy, shop -> shop.set(3, SQUARE, 0, column, 5));
            refused("3: row's column " + column, NO_PLACE, Shops::busy, shop -> shop.set(3, ROW, 0, column, 5));
            PoleShop shop = busy();
            answers("3: column's column " + column, 0, () -> shop.set(3, COLUMN, 1, column, 5));
            answers("3: d's column " + column, 0, () -> shop.set(3, THROUGH, 1, column, 6));
            whole("3: column " + column + " does not matter", shop, 3, 1, 2, 3, 4, 1, 5, 0, 1, 6);
        }
        refused("3: square's column 8 of 8", NO_PLACE, Shops::busy, shop -> shop.set(1, SQUARE, 0, 8, 5));
        refused("3: row's column 8 of 8", NO_PLACE, Shops::busy, shop -> shop.set(1, ROW, 0, 8, 5));
    }

    private static void setWantsAValueFromMinus10006To10006() {
        for (int value : new int[] {-10006, -1, 0, 1, 10006}) {
            for (int what = SQUARE; what <= THROUGH; what++) {
                int w = what;
                PoleShop shop = busy();
                shop.set(3, w, 0, 0, value);
                answers("3: value " + value + " in " + w, remainder(value), () -> shop.at(3, w, 0, 0));
            }
        }
        for (int value : OUT_OF_RANGE) {
            for (int what = SQUARE; what <= THROUGH; what++) {
                int w = what;
                refused("3: value " + value + " in " + w, BAD_ARGUMENT, Shops::busy,
                        shop -> shop.set(3, w, 0, 0, value));
            }
        }
    }

    private static void setReturnsTheNumberBefore() {
        for (int what = SQUARE; what <= THROUGH; what++) {
            int w = what;
            PoleShop shop = new PoleShop();
            shop.system(2);
            answers("3: before the first set of " + w, 0, () -> shop.set(0, w, 1, 1, -10006));
            answers("3: before, from below 0", 1, () -> shop.set(0, w, 1, 1, 10006));
            answers("3: before, the highest", 10006, () -> shop.set(0, w, 1, 1, 0));
            refuses("3: refused between", BAD_ARGUMENT, () -> shop.set(0, w, 1, 1, 10007));
            answers("3: before, 0", 0, () -> shop.set(0, w, 1, 1, 3));
            answers("3: before, the same", 3, () -> shop.set(0, w, 1, 1, 3));
            answers("3: and still", 3, () -> shop.at(0, w, 1, 1));
        }
    }

    // ---- promise 4

    private static void joinWantsTwoSystemsThatThereAre() {
        PoleShop shop = busy();
        answers("4: the first and the last", 4, () -> shop.join(0, 3, true));
        answers("4: the last and the first", 5, () -> shop.join(3, 0, false));
        answers("4: what was made last", 6, () -> shop.join(5, 3, true));
        answers("4: its order", 8, () -> shop.order(6));
        for (int system : new int[] {-1, 4, 12, LOW, HIGH}) {
            for (boolean inSeries : new boolean[] {true, false}) {
                refused("4: one " + system, NO_PLACE, Shops::busy, made -> made.join(system, 3, inSeries));
                refused("4: other " + system, NO_PLACE, Shops::busy, made -> made.join(3, system, inSeries));
                refused("4: both " + system, NO_PLACE, Shops::busy, made -> made.join(system, system, inSeries));
            }
        }
    }

    private static void joinTakesTheSameOneTwice() {
        PoleShop shop = example();
        shop.set(0, THROUGH, 0, 0, 5);
        answers("4: the same in series", 1, () -> shop.join(0, 0, true));
        whole("4: the same in series", shop, 1,
                1, 2, 0, 0,
                3, 4, 0, 0,
                0, 1, 1, 2,
                0, 0, 3, 4,
                1, 0, 5, 0,
                0, 5, 0, 1,
                25);
        answers("4: the same side by side", 2, () -> shop.join(0, 0, false));
        whole("4: the same side by side", shop, 2,
                1, 2, 0, 0,
                3, 4, 0, 0,
                0, 0, 1, 2,
                0, 0, 3, 4,
                1, 0, 1, 0,
                0, 1, 0, 1,
                10);
    }

    private static void joinIsRefusedIfItsOrderWouldBeAbove8() {
        for (boolean inSeries : new boolean[] {true, false}) {
            String told = inSeries ? "in series" : "side by side";
            PoleShop shop = busy();
            answers("4: 4 and 4 " + told, 4, () -> shop.join(0, 0, inSeries));
            answers("4: order 8 " + told, 8, () -> shop.order(4));
            refused("4: 8 and 1 " + told, BAD_STATE, Shops::busy, made -> made.join(1, 2, inSeries));
            refused("4: 1 and 8 " + told, BAD_STATE, Shops::busy, made -> made.join(2, 1, inSeries));
            refused("4: 8 and 8 " + told, BAD_STATE, Shops::busy, made -> made.join(1, 1, inSeries));
        }
    }

    private static void joinInSeriesPutsTheSecondStateBehindTheFirst() {
        PoleShop shop = new PoleShop();
        make(shop, 1, 3, 2, 5, 0);
        make(shop, 1, 4, 7, 6, 9);
        shop.join(0, 1, true);
        shop.join(1, 0, true);
        whole("4: the first one without d", shop, 2, 3, 0, 35, 4, 2, 0, 45, 6, 0);
        whole("4: the second one without d", shop, 3, 4, 0, 12, 3, 7, 18, 0, 5, 0);
        withInputs(shop, 1, 2, 3);
        for (int step = 0; step <= 40; step++) {
            int s = step;
            answers("4: the order of both does not show at " + s, shop.output(2, s), () -> shop.output(3, s));
        }
    }

    private static void joinSideBySideAddsTheOutputs() {
        PoleShop shop = new PoleShop();
        make(shop, 1, 3, 2, 5, 10006);
        make(shop, 2, 1, 2, 3, 4, 6, -1, 8, 9, 1);
        shop.join(0, 1, false);
        whole("4: side by side", shop, 2, 3, 0, 0, 0, 1, 2, 0, 3, 4, 2, 6, -1, 5, 8, 9, 0);
        withInputs(shop, 10006, 2, 3);
        for (int step = 0; step <= 40; step++) {
            int s = step;
            answers("4: the outputs added at " + s, (shop.output(0, s) + shop.output(1, s)) % 10007,
                    () -> shop.output(2, s));
        }
    }

    private static void joinIsRefusedIfThereAre12() {
        for (boolean inSeries : new boolean[] {true, false}) {
            PoleShop shop = filled(busy(), 11);
            answers("4: the twelfth", 11, () -> shop.join(3, 2, inSeries));
            answers("4: the twelfth's order", 3, () -> shop.order(11));
            refuses("4: the thirteenth", BAD_STATE, () -> shop.join(3, 2, inSeries));
            refused("4: there are 12", BAD_STATE, () -> full(busy()), made -> made.join(3, 2, inSeries));
            refused("4: there are 12, and order 16", BAD_STATE, () -> full(busy()), made -> made.join(1, 1, inSeries));
        }
    }

    // ---- promise 5

    private static void loopWantsASystemThatThereIs() {
        PoleShop shop = busy();
        answers("5: the first system", 4, () -> shop.loop(0, 1));
        answers("5: the last system", 5, () -> shop.loop(4, 1));
        for (int system : new int[] {-1, 4, 12, LOW, HIGH}) {
            refused("5: system " + system, NO_PLACE, Shops::busy, made -> made.loop(system, 1));
        }
    }

    private static void loopWantsAGainFromMinus10006To10006() {
        for (int gain : new int[] {-10006, -1, 0, 1, 10006}) {
            PoleShop shop = busy();
            answers("5: gain " + gain, 4, () -> shop.loop(3, gain));
            whole("5: gain " + gain, shop, 4, 1, 2 - gain, 3, 4, 1, 0, 0, 1, 0);
            whole("5: the other one", shop, 3, 1, 2, 3, 4, 1, 0, 0, 1, 0);
        }
        for (int gain : OUT_OF_RANGE) {
            refused("5: gain " + gain, BAD_ARGUMENT, Shops::busy, shop -> shop.loop(3, gain));
        }
    }

    private static void loopIsRefusedIfSIs0() {
        int[][] gainAndD = {{-1, 1}, {10006, 1}, {1, -1}, {-10006, 10006}, {5003, 2}, {2, 5003}, {-2, 5004}};
        for (int[] pair : gainAndD) {
            Supplier<PoleShop> made = () -> {
                PoleShop shop = busy();
                shop.set(3, THROUGH, 0, 0, pair[1]);
                return shop;
            };
            refused("5: gain " + pair[0] + ", d " + pair[1], BAD_STATE, made, shop -> shop.loop(3, pair[0]));
        }
        PoleShop shop = busy();
        answers("5: d is 0", 4, () -> shop.loop(3, -1));
        shop.set(3, THROUGH, 0, 0, 1);
        answers("5: s is -1", 5, () -> shop.loop(3, -2));
        whole("5: s is -1", shop, 5, 1, 0, 3, 4, -1, 0, 0, -1, -1);
        answers("5: s is 1", 6, () -> shop.loop(3, 0));
        whole("5: s is 1", shop, 6, 1, 2, 3, 4, 1, 0, 0, 1, 1);
        answers("5: s is 2", 7, () -> shop.loop(3, 1));
        whole("5: s is 2", shop, 7, 1, 2 - 5004, 3, 4, 5004, 0, 0, 5004, 5004);
    }

    private static void loopHasTheOrderOfTheOther() {
        for (int n = 1; n <= 8; n++) {
            int order = n;
            PoleShop shop = new PoleShop();
            int system = delays(shop, n);
            shop.set(system, THROUGH, 0, 0, 2);
            int[] due = new int[n * n + 2 * n + 1];
            for (int i = 1; i < n; i++) {
                due[i * n + i - 1] = 1;
            }
            // s is -1, so b, c and d change their signs, and what goes back is b c by -1
            due[n - 1] = -1;
            due[n * n] = -1;
            due[n * n + 2 * n - 1] = -1;
            due[n * n + 2 * n] = -2;
            answers("5: order " + n, system + 1, () -> shop.loop(system, 10006));
            answers("5: order " + n + ", its order", order, () -> shop.order(system + 1));
            whole("5: order " + n + ", s is -1", shop, system + 1, due);
        }
    }

    private static void loopIsRefusedIfThereAre12() {
        PoleShop shop = filled(busy(), 11);
        answers("5: the twelfth", 11, () -> shop.loop(3, 1));
        answers("5: the twelfth's order", 2, () -> shop.order(11));
        refuses("5: the thirteenth", BAD_STATE, () -> shop.loop(3, 1));
        refused("5: there are 12", BAD_STATE, () -> full(busy()), made -> made.loop(3, 1));
        refused("5: there are 12, and s is 0", BAD_STATE, () -> full(busy()), made -> made.loop(2, -1));
    }

    // ---- promises 11 and 12

    private static void atWantsWhatSetWants() {
        Supplier<PoleShop> made = Shops::busy;
        for (int system : new int[] {-1, 4, 12, LOW, HIGH}) {
            refused("11: system " + system, NO_PLACE, made, shop -> shop.at(system, THROUGH, 0, 0));
        }
        for (int what : new int[] {-1, 4, LOW, HIGH}) {
            refused("11: what " + what, NO_PLACE, made, shop -> shop.at(3, what, 0, 0));
        }
        for (int place : new int[] {-1, 2, 8, LOW, HIGH}) {
            refused("11: square's row " + place, NO_PLACE, made, shop -> shop.at(3, SQUARE, place, 0));
            refused("11: square's column " + place, NO_PLACE, made, shop -> shop.at(3, SQUARE, 0, place));
            refused("11: column's row " + place, NO_PLACE, made, shop -> shop.at(3, COLUMN, place, 0));
            refused("11: row's column " + place, NO_PLACE, made, shop -> shop.at(3, ROW, 0, place));
            asked("11: column's column " + place, 1, made, shop -> shop.at(3, COLUMN, 0, place));
            asked("11: row's row " + place, 1, made, shop -> shop.at(3, ROW, place, 1));
            asked("11: d's row and column " + place, 1, made, shop -> shop.at(2, THROUGH, place, place));
        }
        asked("11: the twelfth", 0, () -> full(busy()), shop -> shop.at(11, SQUARE, 0, 0));
        refused("11: the thirteenth", NO_PLACE, () -> full(busy()), shop -> shop.at(12, SQUARE, 0, 0));
    }

    private static void atReadsTheLastPlacesOfEachOrder() {
        for (int order = 1; order <= 8; order++) {
            int n = order;
            PoleShop shop = new PoleShop();
            int system = delays(shop, n);
            int[] due = new int[n * n + 2 * n + 1];
            for (int i = 0; i < n; i++) {
                shop.set(system, SQUARE, i, n - 1 - i, 100 + i);
                shop.set(system, COLUMN, i, 0, 200 + i);
                shop.set(system, ROW, 0, i, 300 + i);
                due[n * n + i] = 200 + i;
                due[n * n + n + i] = 300 + i;
            }
            for (int i = 1; i < n; i++) {
                due[i * n + i - 1] = 1;
            }
            for (int i = 0; i < n; i++) {
                due[i * n + n - 1 - i] = 100 + i;
            }
            whole("11: order " + n, shop, system, due);
            refuses("11: row " + n, NO_PLACE, () -> shop.at(system, SQUARE, n, n - 1));
            refuses("11: column " + n, NO_PLACE, () -> shop.at(system, SQUARE, n - 1, n));
        }
    }

    private static void orderWantsASystemThatThereIs() {
        asked("12: the first", 4, Shops::busy, shop -> shop.order(0));
        asked("12: the last", 2, Shops::busy, shop -> shop.order(3));
        asked("12: the twelfth", 1, () -> full(busy()), shop -> shop.order(11));
        for (int system : new int[] {-1, 4, 12, LOW, HIGH}) {
            refused("12: system " + system, NO_PLACE, Shops::busy, shop -> shop.order(system));
        }
        refused("12: the thirteenth", NO_PLACE, () -> full(busy()), shop -> shop.order(12));
    }
}
