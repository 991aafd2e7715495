/** Questions change nothing: neither what is in a workshop, nor what other questions answer there. */
public final class QuestionsTest extends Shops {
    private QuestionsTest() {
    }

    public static void main(String[] args) {
        questionsChangeNothing();
        questionsDoNotBearOnOneAnother();
        questionsAreAnsweredAlikeInAnyOrder();
        questionsDoNotHideWhatIsChangedBehindThem();
        CHECK.end("QuestionsTest");
    }

    private static void questionsChangeNothing() {
        asked("order", 8, Shops::busy, shop -> shop.order(1));
        asked("at", 3, Shops::busy, shop -> shop.at(3, SQUARE, 1, 0));
        asked("polynomial", -2, Shops::busy, shop -> shop.polynomial(3, 0, false));
        asked("polynomial of 8", 1, Shops::busy, shop -> shop.polynomial(1, 8, false));
        asked("numerator", 3, Shops::busy, shop -> shop.polynomial(3, 0, true));
        asked("rank", 8, Shops::busy, shop -> shop.rank(1, false));
        asked("rank to see", 8, Shops::busy, shop -> shop.rank(1, true));
        asked("number", 1, Shops::busy, shop -> shop.number(1, 8));
        asked("output", 6, Shops::busy, shop -> shop.output(1, 9));
        asked("outputAnew", 6, Shops::busy, shop -> shop.outputAnew(1, 9));
        asked("gain", 4, Shops::busy, shop -> shop.gain(3, 1));
        asked("gainAnew", 4, Shops::busy, shop -> shop.gainAnew(3, 1));
        asked("observer", -2, Shops::busy, shop -> shop.observer(3, 1));
        asked("cost", 100, Shops::busy, shop -> shop.cost(3, 2, 3, 1));
        asked("costAnew", 100, Shops::busy, shop -> shop.costAnew(3, 2, 3, 1));
        asked("least", 8, Shops::busy, shop -> shop.least(1));
        asked("leastAnew", 8, Shops::busy, shop -> shop.leastAnew(1));
    }

    private interface Question {
        int ask(PoleShop shop, int system);
    }

    private static final Question[] QUESTIONS = {
        PoleShop::order, (shop, system) -> shop.at(system, SQUARE, 0, 0), (shop, system) -> shop.at(system, ROW, 0, 0),
        (shop, system) -> shop.polynomial(system, 1, false), (shop, system) -> shop.polynomial(system, 0, true),
        (shop, system) -> shop.polynomial(system, shop.order(system), true),
        (shop, system) -> shop.rank(system, false), (shop, system) -> shop.rank(system, true),
        (shop, system) -> shop.number(system, 9), (shop, system) -> shop.number(system, 2),
        (shop, system) -> shop.output(system, 9), (shop, system) -> shop.output(system, 3),
        (shop, system) -> shop.outputAnew(system, 9), (shop, system) -> shop.outputAnew(system, 3),
        (shop, system) -> shop.gain(system, 0), (shop, system) -> shop.gainAnew(system, 0),
        (shop, system) -> shop.observer(system, 0), PoleShop::least, PoleShop::leastAnew,
        (shop, system) -> shop.cost(system, 1, 3, 4), (shop, system) -> shop.costAnew(system, 1, 3, 4),
        (shop, system) -> shop.cost(system, 2, 1, 1), (shop, system) -> shop.costAnew(system, 2, 1, 1),
    };

    /** System 0 is of order 3, 1 and 2 of 4, 3 of 8; 4 is of order 1 and can be neither steered nor seen. */
    private static PoleShop manyOrders() {
        PoleShop shop = new PoleShop();
        dense(shop, 3);
        dense(shop, 8);
        make(shop, 1, 5, 0, 0, 7);
        withInputs(shop, 10, 20, 40, 80);
        return withPoles(shop, 1, 2, 3, 4, 5, 6, 7, 8, 9, 10, 11, 12, 13, 14, 15, 16);
    }

    private static void questionsDoNotBearOnOneAnother() {
        for (int then = 0; then < QUESTIONS.length; then++) {
            Question asked = QUESTIONS[then];
            for (int of : new int[] {0, 3, 4}) {
                String due = outcome(() -> asked.ask(manyOrders(), of));
                for (int first = 0; first < QUESTIONS.length; first++) {
                    Question before = QUESTIONS[first];
                    for (int ofBefore : new int[] {0, 2, 3, 4}) {
                        PoleShop shop = manyOrders();
                        outcome(() -> before.ask(shop, ofBefore));
                        CHECK.same("question " + then + " of " + of + " behind " + first + " of " + ofBefore, due,
                                outcome(() -> asked.ask(shop, of)));
                    }
                }
            }
        }
    }

    /** Some 350 questions to one workshop, each time in other steps through all of them. */
    private static void questionsAreAnsweredAlikeInAnyOrder() {
        int all = QUESTIONS.length * 5;
        String[] due = new String[all];
        for (int place = 0; place < all; place++) {
            int p = place;
            due[p] = outcome(() -> QUESTIONS[p / 5].ask(manyOrders(), p % 5));
        }
        for (int step = 1; step < all; step++) {
            PoleShop shop = manyOrders();
            int place = 0;
            for (int count = 0; count < 3 * all; count++) {
                place = (place + step) % all;
                int p = place;
                CHECK.same("steps of " + step + ", question " + p / 5 + " of " + p % 5, due[p],
                        outcome(() -> QUESTIONS[p / 5].ask(shop, p % 5)));
            }
        }
    }

    private interface Change {
        int make(PoleShop shop);
    }

    private static final Change[] CHANGES = {
        shop -> shop.set(0, SQUARE, 0, 0, 77), shop -> shop.set(0, SQUARE, 2, 1, 77),
        shop -> shop.set(0, COLUMN, 0, 0, 77), shop -> shop.set(0, COLUMN, 2, 0, 0),
        shop -> shop.set(0, ROW, 0, 1, 77), shop -> shop.set(0, THROUGH, 0, 0, 77),
        PoleShop::clear,
        shop -> shop.clear() + withInputs(shop, 7, 7, 7).pole(6),
        shop -> shop.clear() + withPoles(shop, 9, 8, 7, 6, 5, 4).input(6),
        shop -> shop.placed(0),
    };

    private static void questionsDoNotHideWhatIsChangedBehindThem() {
        for (int kind = 0; kind < QUESTIONS.length; kind++) {
            Question question = QUESTIONS[kind];
            for (int change = 0; change < CHANGES.length; change++) {
                Change changing = CHANGES[change];
                PoleShop unasked = manyOrders();
                PoleShop asked = manyOrders();
                outcome(() -> question.ask(asked, 0));
                outcome(() -> changing.make(asked));
                outcome(() -> changing.make(unasked));
                CHECK.same("question " + kind + " behind change " + change, outcome(() -> question.ask(unasked, 0)),
                        outcome(() -> question.ask(asked, 0)));
            }
        }
    }
}
