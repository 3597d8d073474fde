/** Compares answers with those that are due, and ends with exit code 1 if one was wrong. */
final class Due {
    private final String name;
    private int wrong;
    private int seen;

    Due(String name) {
        this.name = name;
    }

    void is(String call, long got, long want) {
        seen++;
        if (got != want) {
            wrong++;
            System.out.println(name + ": " + call + " answered " + got + ", due is " + want);
        }
    }

    void holds(String what, boolean so) {
        seen++;
        if (!so) {
            wrong++;
            System.out.println(name + ": not so: " + what);
        }
    }

    int seen() {
        return seen;
    }

    boolean anyWrong() {
        return wrong > 0;
    }

    void end() {
        System.out.println(name + ": " + seen + " looked at, " + wrong + " wrong");
        if (wrong > 0 || seen == 0) {
            System.exit(1);
        }
    }
}
