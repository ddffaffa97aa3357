/** Counts the answers that are not as due, and ends a test. */
final class Check {
    static final int BEYOND = -100001;
    static final int MISSING = -100002;
    static final int SIZE = -100003;
    static final int KIND = -100004;
    static final int FULL = -100005;
    static final int NONE = -100006;
    static final int BUSY = -100007;
    static final int NEVER = -100008;

    private int asked = 0;
    private int wrong = 0;

    void due(String call, long got, long want) {
        asked++;
        if (got != want) {
            wrong++;
            if (wrong <= 40) {
                System.out.println(call + " answered " + got + ", due is " + want);
            }
        }
    }

    void holds(String what, boolean is) {
        asked++;
        if (!is) {
            wrong++;
            System.out.println("does not hold: " + what);
        }
    }

    void end() {
        System.out.println(wrong == 0 ? asked + " answers are as due" : wrong + " of " + asked + " answers are not as due");
        if (wrong != 0) {
            System.exit(1);
        }
    }
}
