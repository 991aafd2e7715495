import java.util.Random;

/** Runs of at most 512 calls, drawn by fixed seeds, on a PoleShop and on the Reference side by side. */
public final class RandomTest {
    private static final int RUNS = 600;
    private static final int CALLS = 300;

    private final Random random;
    private final PoleShop shop = new PoleShop();
    private final Reference reference = new Reference();
    private final Check check;
    private final int run;
    /** How often an argument is out of its range, of a hundred. */
    private final int wild;
    /** How often a number is 0, of a hundred: sparse systems are where ranks fall. */
    private final int sparse;
    private int systems;

    private RandomTest(Check check, int run) {
        this.check = check;
        this.run = run;
        random = new Random(1000 + run);
        wild = run % 3 == 0 ? 10 : 2;
        sparse = run * 37 % 90;
    }

    public static void main(String[] args) {
        Check check = new Check();
        for (int run = 0; run < RUNS; run++) {
            new RandomTest(check, run).go();
        }
        check.end("RandomTest");
    }

    private void go() {
        for (int call = 0; call < CALLS; call++) {
            one();
        }
        compareWhole(systems - 1);
        compareWhole(random.nextInt(systems));
    }

    private static String outcome(Check.Call call) {
        try {
            return Integer.toString(call.run());
        } catch (RuntimeException e) {
            return e.getClass().getName();
        }
    }

    private void compare(String what, Check.Call due, Check.Call got) {
        check.same("run " + run + ": " + what, outcome(due), outcome(got));
    }

    private boolean chance(int ofHundred) {
        return random.nextInt(100) < ofHundred;
    }

    private int wildNumber() {
        int[] edges = {-1, Integer.MIN_VALUE, Integer.MAX_VALUE, 12, 13, 10007, -10007, 10008, 41, 21, 9, 4};
        return edges[random.nextInt(edges.length)];
    }

    private int upTo(int most) {
        return chance(wild) ? wildNumber() : random.nextInt(most + 1);
    }

    private int aSystem() {
        return upTo(Math.max(systems - 1, 0));
    }

    private int aValue() {
        if (chance(wild)) {
            return wildNumber();
        }
        if (chance(sparse)) {
            return 0;
        }
        return chance(60) ? random.nextInt(7) - 3 : random.nextInt(20013) - 10006;
    }

    private void one() {
        int kind = random.nextInt(100);
        if (systems == 0 || kind < 35) {
            change(systems == 0 ? 0 : random.nextInt(35));
        } else {
            ask(random.nextInt(14));
        }
    }

    private void made(String what, Check.Call due, Check.Call got) {
        compare(what, due, got);
        String last = outcome(() -> reference.order(systems));
        if (!last.startsWith("java")) {
            systems++;
        }
    }

    /** Systems are made slowly, so that there is a run's length of calls to all of them. */
    private void change(int kind) {
        if (kind == 0) {
            int order = chance(wild) ? wildNumber() : 1 + random.nextInt(4);
            made("system(" + order + ")", () -> reference.system(order), () -> shop.system(order));
        } else if (kind == 1) {
            int one = aSystem();
            int other = aSystem();
            boolean inSeries = random.nextBoolean();
            made("join(" + one + ", " + other + ", " + inSeries + ")",
                    () -> reference.join(one, other, inSeries), () -> shop.join(one, other, inSeries));
        } else if (kind == 2) {
            int system = aSystem();
            int gain = aValue();
            made("loop(" + system + ", " + gain + ")",
                    () -> reference.loop(system, gain), () -> shop.loop(system, gain));
        } else if (kind == 3) {
            int system = aSystem();
            made("placed(" + system + ")", () -> reference.placed(system), () -> shop.placed(system));
        } else if (kind == 4) {
            int system = aSystem();
            made("joined(" + system + ")", () -> reference.joined(system), () -> shop.joined(system));
        } else if (kind == 5 && chance(40)) {
            compare("clear()", reference::clear, shop::clear);
        } else if (kind < 10) {
            int value = aValue();
            compare("pole(" + value + ")", () -> reference.pole(value), () -> shop.pole(value));
        } else if (kind < 13) {
            int value = aValue();
            compare("input(" + value + ")", () -> reference.input(value), () -> shop.input(value));
        } else {
            setOne();
        }
    }

    private void setOne() {
        int system = aSystem();
        int what = chance(wild) ? wildNumber() : chance(70) ? 0 : random.nextInt(4);
        int row = upTo(3);
        int column = upTo(3);
        int value = what == 3 && chance(60) ? 0 : aValue();
        compare("set(" + system + ", " + what + ", " + row + ", " + column + ", " + value + ")",
                () -> reference.set(system, what, row, column, value),
                () -> shop.set(system, what, row, column, value));
    }

    private void ask(int kind) {
        int system = aSystem();
        boolean flag = random.nextBoolean();
        int place = upTo(chance(50) ? 3 : 7);
        int step = upTo(40);
        switch (kind) {
            case 0 -> {
                int what = upTo(3);
                int row = upTo(7);
                compare("at(" + system + ", " + what + ", " + row + ", " + place + ")",
                        () -> reference.at(system, what, row, place), () -> shop.at(system, what, row, place));
            }
            case 1 -> compare("order(" + system + ")",
                    () -> reference.order(system), () -> shop.order(system));
            case 2 -> compare("polynomial(" + system + ", " + place + ", " + flag + ")",
                    () -> reference.polynomial(system, place, flag), () -> shop.polynomial(system, place, flag));
            case 3, 4 -> compare("rank(" + system + ", " + flag + ")",
                    () -> reference.rank(system, flag), () -> shop.rank(system, flag));
            case 5 -> compare("number(" + system + ", " + step + ")",
                    () -> reference.number(system, step), () -> shop.number(system, step));
            case 6 -> compare("output(" + system + ", " + step + ")",
                    () -> reference.output(system, step), () -> shop.output(system, step));
            case 7 -> compare("outputAnew(" + system + ", " + step + ")",
                    () -> reference.output(system, step), () -> shop.outputAnew(system, step));
            case 8 -> compare("gain(" + system + ", " + place + ")",
                    () -> reference.gain(system, place), () -> shop.gain(system, place));
            case 9 -> compare("gainAnew(" + system + ", " + place + ")",
                    () -> reference.gain(system, place), () -> shop.gainAnew(system, place));
            case 10 -> compare("observer(" + system + ", " + place + ")",
                    () -> reference.observer(system, place), () -> shop.observer(system, place));
            case 11 -> askCost(system);
            case 12 -> compare("least(" + system + ")",
                    () -> reference.least(system), () -> shop.least(system));
            default -> compare("leastAnew(" + system + ")",
                    () -> reference.least(system), () -> shop.leastAnew(system));
        }
    }

    private void askCost(int system) {
        int q = upTo(chance(50) ? 3 : 10006);
        int r = upTo(chance(50) ? 3 : 10006);
        int steps = upTo(20);
        String arguments = "(" + system + ", " + q + ", " + r + ", " + steps + ")";
        compare("cost" + arguments,
                () -> reference.cost(system, q, r, steps), () -> shop.cost(system, q, r, steps));
        compare("costAnew" + arguments,
                () -> reference.cost(system, q, r, steps), () -> shop.costAnew(system, q, r, steps));
    }

    /** A system has 81 numbers at most, so that the run stays below 512 calls. */
    private void compareWhole(int system) {
        int n = shop.order(system);
        for (int row = 0; row < n; row++) {
            for (int column = 0; column < n; column++) {
                compareEntry(system, PoleShop.SQUARE, row, column);
            }
            compareEntry(system, PoleShop.COLUMN, row, -1);
            compareEntry(system, PoleShop.ROW, -1, row);
        }
        compareEntry(system, PoleShop.THROUGH, -1, -1);
    }

    private void compareEntry(int system, int what, int row, int column) {
        compare("at(" + system + ", " + what + ", " + row + ", " + column + ")",
                () -> reference.at(system, what, row, column), () -> shop.at(system, what, row, column));
    }
}
