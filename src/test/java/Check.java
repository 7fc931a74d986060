/** Counts the answers that are not the ones due, and prints each. */
final class Check {
    private long seen = 0;
    private long wrong = 0;
    private String about = "";

    /** What the answers from here on are about; told with each wrong one. */
    void about(String what) {
        about = what + ": ";
    }

    void due(String call, long want, long got) {
        seen++;
        if (want != got) {
            tell(call, Long.toString(want), Long.toString(got));
        }
    }

    void due(String call, boolean want, boolean got) {
        seen++;
        if (want != got) {
            tell(call, Boolean.toString(want), Boolean.toString(got));
        }
    }

    void text(String call, String want, String got) {
        seen++;
        if (!want.equals(got)) {
            tell(call, want, got);
        }
    }

    boolean isClean() {
        return wrong == 0;
    }

    private void tell(String call, String want, String got) {
        wrong++;
        if (wrong <= 50) {
            System.out.println(about + call + " answered " + got + ", due is " + want);
        }
    }

    void end() {
        System.out.println(wrong == 0 ? seen + " answers are as due" : wrong + " of " + seen + " answers are not as due");
        if (wrong != 0) {
            System.exit(1);
        }
    }
}
