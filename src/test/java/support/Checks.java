/** Counts answers that are not the due ones, and prints each of them with the sentence of the document it breaks. */
final class Checks {
    private static final int MOST_PRINTED = 40;

    private final String name;
    private String sentence = "";
    private int checked = 0;
    private int wrong = 0;

    Checks(String name) {
        this.name = name;
    }

    /** A test of its own for a sentence of the document, which is told if an answer in it is wrong. */
    void sentence(String words, Runnable test) {
        int checkedBefore = checked;
        sentence = " [" + words + "]";
        test.run();
        if (checked == checkedBefore) {
            due("a test that checks nothing", 1, 0);
        }
        sentence = "";
    }

    void due(String call, long want, long got) {
        checked++;
        if (want != got) {
            wrong++;
            if (wrong <= MOST_PRINTED) {
                System.out.println(name + sentence + ": " + call + " answered " + got + ", due is " + want);
            }
        }
    }

    void holds(String what, boolean right) {
        due(what, 1, right ? 1 : 0);
    }

    boolean anyWrong() {
        return wrong > 0;
    }

    void close() {
        System.out.println(name + ": " + checked + " checks, " + wrong + " wrong");
        if (wrong > 0 || checked == 0) {
            System.exit(1);
        }
    }
}
