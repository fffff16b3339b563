/** Counts the answers that are not as due, and prints them. */
final class Check {
    private static final int MOST_PRINTED = 40;

    private final String name;
    private int checked;
    private int wrong;

    Check(String name) {
        this.name = name;
    }

    void due(String call, long got, long want) {
        checked++;
        if (got != want) {
            wrong++;
            if (wrong <= MOST_PRINTED) {
                System.out.println(name + ": " + call + " answered " + got + ", due is " + want);
            }
        }
    }

    void holds(String what, boolean is) {
        due(what, is ? 1 : 0, 1);
    }

    int wrong() {
        return wrong;
    }

    /** Ends the test: exit code 1 if there was a wrong answer. */
    void end() {
        System.out.println(name + ": " + checked + " answers, " + wrong + " not as due");
        if (wrong != 0) {
            System.exit(1);
        }
    }
}
