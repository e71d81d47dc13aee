/** Counts the answers that are not as due and ends the test with exit code 1 if there was one. */
final class Check {
    /** Numbers far from every limit of the document, where a shift or a sum could wrap around. */
    static final int[] FAR = {Integer.MIN_VALUE, -65536, 65536, Integer.MAX_VALUE};

    private static final int MOST_PRINTED = 40;

    private int answers = 0;
    private int wrong = 0;

    static TrailedDomains withVariables(int... domains) {
        TrailedDomains object = new TrailedDomains();
        for (int domain : domains) {
            object.variable(domain);
        }
        return object;
    }

    void due(String call, int got, int want) {
        answers++;
        if (got != want) {
            wrong++;
            print(call + " answered " + got + ", due is " + want);
        }
    }

    void due(String call, boolean got, boolean want) {
        answers++;
        if (got != want) {
            wrong++;
            print(call + " answered " + got + ", due is " + want);
        }
    }

    void dueDomains(String what, TrailedDomains object, int... domains) {
        for (int x = 0; x < domains.length; x++) {
            due(what + ": domain(" + x + ")", object.domain(x), domains[x]);
        }
    }

    boolean allRight() {
        return wrong == 0;
    }

    void end() {
        System.out.println(wrong + " of " + answers + " answers are not as due");
        if (wrong != 0 || answers == 0) {
            System.exit(1);
        }
    }

    private void print(String line) {
        if (wrong <= MOST_PRINTED) {
            System.out.println(line);
        }
    }
}
