/** Compares answers with those that are due, prints each that is not, and ends with exit code 1 if there was one. */
final class Check {
    private static final int MOST_PRINTED = 40;

    private String where = "";
    private int wrong;
    private int seen;

    void in(String place) {
        where = place;
    }

    /** What follows tests a sentence of the document; where it stands in the terms, the promise is one that stands on it. */
    void says(int promise, String sentence) {
        in("promise " + promise + ", \"" + sentence + "\"");
    }

    void due(String call, long got, long want) {
        seen++;
        if (got == want) {
            return;
        }
        wrong++;
        if (wrong <= MOST_PRINTED) {
            System.out.println(where + ": " + call + " answered " + got + ", due is " + want);
        }
    }

    void yes(String call, boolean got) {
        due(call, got ? 1 : 0, 1);
    }

    void no(String call, boolean got) {
        due(call, got ? 1 : 0, 0);
    }

    void end() {
        System.out.println(wrong == 0 ? seen + " answers are as due" : wrong + " of " + seen + " answers are not as due");
        if (wrong != 0) {
            System.exit(1);
        }
    }
}
