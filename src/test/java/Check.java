/** Counts what is as due and what is not, and prints the latter. */
final class Check {
    interface Call {
        int run();
    }

    private int passed;
    private int failed;

    void answers(String what, int due, Call call) {
        String got;
        try {
            got = Integer.toString(call.run());
        } catch (RuntimeException e) {
            got = e.getClass().getName();
        }
        same(what, Integer.toString(due), got);
    }

    /** The class itself is due, not one below it: those are what the machine throws. */
    void refuses(String what, Class<? extends RuntimeException> due, Call call) {
        String got;
        try {
            got = Integer.toString(call.run());
        } catch (RuntimeException e) {
            got = e.getClass().getName();
        }
        same(what, due.getName(), got);
    }

    void same(String what, String due, String got) {
        if (due.equals(got)) {
            passed++;
        } else {
            failed++;
            System.out.println(what + ": " + got + ", due is " + due);
        }
    }

    void holds(String what, boolean holds) {
        same(what, "true", Boolean.toString(holds));
    }

    void end(String name) {
        System.out.println(name + ": " + passed + " passed, " + failed + " failed");
        if (failed > 0 || passed == 0) {
            System.exit(1);
        }
    }
}
