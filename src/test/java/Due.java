/** Counts the answers that are not the ones that are due. */
class Due {
    private final String test;
    private String about = "";
    private int asked;
    private int wrong;

    Due(String test) {
        this.test = test;
    }

    /** What the answers from here on are about. */
    void about(String words) {
        about = words;
    }

    void due(String call, long got, long want) {
        asked++;
        if (got == want) {
            return;
        }
        wrong++;
        if (wrong <= 50) {
            tell(about + ": " + call + " answered " + got + ", due is " + want);
        }
    }

    /** Where a wrong answer is told. */
    void tell(String line) {
        System.out.println(line);
    }

    void due(String call, boolean got, boolean want) {
        due(call, got ? 1 : 0, want ? 1 : 0);
    }

    boolean isClean() {
        return wrong == 0;
    }

    void end() {
        System.out.println(test + ": " + asked + " answers, " + wrong + " wrong");
        if (wrong != 0 || asked == 0) {
            System.exit(1);
        }
    }
}
