/** Counts answers that are not the due ones, and prints each of them. */
final class Checks {
    private final String name;
    private int checked = 0;
    private int wrong = 0;

    Checks(String name) {
        this.name = name;
    }

    void due(String call, long want, long got) {
        checked++;
        if (want != got) {
            wrong++;
            if (wrong <= 40) {
                System.out.println(name + ": " + call + " answered " + got + ", due is " + want);
            }
        }
    }

    void holds(String what, boolean right) {
        due(what, 1, right ? 1 : 0);
    }

    boolean anyWrong() {
        return wrong > 0;
    }

    void close() {
        System.out.println(name + ": " + checked + " checks, " + wrong + " wrong");
        if (wrong > 0 || checked == 0) {
            System.exit(1);
        }
    }
}
