/** Counts the answers that are not as due, and ends a test by them. */
final class Check {
    static final long BEYOND = -1000000001L;
    static final long FULL = -1000000002L;
    static final long KIND = -1000000003L;
    static final long NONE = -1000000004L;
    static final long STATE = -1000000005L;
    static final long MISSING = -1000000006L;
    static final long SIZE = -1000000007L;

    private final String test;
    private int asked;
    private int wrong;

    Check(String test) {
        this.test = test;
    }

    void due(String call, long got, long want) {
        asked++;
        if (got != want) {
            wrong++;
            if (wrong <= 40) {
                System.out.println(test + ": " + call + " answered " + got + ", due is " + want);
            }
        }
    }

    /** Each of the calls answered this one finding, and no other act counted any. */
    void found(TideLoans x, String call, long got, long finding) {
        due(call, got, finding);
        lastStatus[(int) (BEYOND - finding)]++;
        for (int i = 0; i < lastStatus.length; i++) {
            due(call + " then status(" + i + ")", x.status(i), lastStatus[i]);
        }
    }

    private int[] lastStatus = new int[7];

    /** Begins with a new object, none of whose acts has answered a finding. */
    TideLoans fresh() {
        lastStatus = new int[7];
        return new TideLoans();
    }

    void end() {
        System.out.println(test + ": " + asked + " answers, " + wrong + " wrong");
        if (wrong != 0 || asked == 0) {
            System.exit(1);
        }
    }

    /** Feeds a text, a byte a call. */
    static void feed(TideLoans x, String text) {
        for (int i = 0; i < text.length(); i++) {
            x.feed(text.charAt(i), 1);
        }
    }
}
