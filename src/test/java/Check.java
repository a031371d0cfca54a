/** Counts and prints the answers that are not the ones that are due. */
final class Check {
    private int looks;
    private int wrong;

    void due(String what, long got, long want) {
        looks++;
        if (got != want) {
            wrong++;
            System.out.println(what + " answered " + got + ", due is " + want);
        }
    }

    void refuses(String what, Class<? extends RuntimeException> due, Runnable call) {
        looks++;
        String got = nameOfThrown(call);
        if (!got.equals(due.getName())) {
            wrong++;
            System.out.println(what + " threw " + got + ", due is " + due.getName());
        }
    }

    private static String nameOfThrown(Runnable call) {
        try {
            call.run();
            return "nothing";
        } catch (RuntimeException e) {
            return e.getClass().getName();
        }
    }

    void end(String title) {
        System.out.println(title + ": " + looks + " answers, " + wrong + " not as due");
        if (wrong != 0) {
            System.exit(1);
        }
    }
}
