/** Counts answers that are not as due, and ends the test accordingly. */
final class Due {
    private final String test;
    private String part = "";
    private int checks = 0;
    private int wrong = 0;

    Due(String test) {
        this.test = test;
    }

    void part(String name) {
        part = name;
    }

    void is(String call, long got, long want) {
        checks++;
        if (got != want) {
            wrong++;
            if (wrong <= 50) {
                System.out.println(test + ", " + part + ": " + call + " answered " + got + ", due is " + want);
            }
        }
    }

    void holds(String what, boolean stands) {
        is(what, stands ? 1 : 0, 1);
    }

    boolean anyWrong() {
        return wrong != 0;
    }

    void end() {
        System.out.println(test + ": " + checks + " checks, " + wrong + " wrong");
        if (wrong != 0 || checks == 0) {
            System.exit(1);
        }
    }
}
