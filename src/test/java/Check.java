/** Counts and prints the answers that are not due. */
final class Check {
    private final String test;
    private int answers = 0;
    private int wrong = 0;
    private String about = "";

    Check(String test) {
        this.test = test;
    }

    void promise(int number) {
        about = "promise " + number;
    }

    /** What the next answers are about, in the document's own words. */
    void about(String words) {
        about = words;
    }

    void is(String call, int got, int want) {
        answers++;
        if (got != want) {
            fault(call + " answered " + got + ", due is " + want);
        }
    }

    void yes(String call, boolean got) {
        is(call, got ? 1 : 0, 1);
    }

    void no(String call, boolean got) {
        is(call, got ? 1 : 0, 0);
    }

    /** A line of the log: i, then what and the two numbers. */
    void line(SpansAway x, int i, int what, int one, int other) {
        is("log(" + i + ", 1)", x.log(i, 1), what);
        is("log(" + i + ", 2)", x.log(i, 2), one);
        is("log(" + i + ", 3)", x.log(i, 3), other);
    }

    void fault(String what) {
        wrong++;
        System.out.println(about + ": " + what);
    }

    void end() {
        System.out.println(test + ": " + answers + " answers, " + wrong + " not as due");
        if (wrong != 0) {
            System.exit(1);
        }
    }
}
