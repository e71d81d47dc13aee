/** Counts the answers that are not as due and ends the test with exit code 1 if there was one. */
final class Check {
    private static final int MOST_PRINTED = 40;

    private int answers = 0;
    private int wrong = 0;

    void due(String call, int got, int want) {
        answers++;
        if (got != want) {
            wrong++;
            print(call + " answered " + got + ", due is " + want);
        }
    }

    void due(String call, boolean got, boolean want) {
        answers++;
        if (got != want) {
            wrong++;
            print(call + " answered " + got + ", due is " + want);
        }
    }

    boolean allRight() {
        return wrong == 0;
    }

    void end() {
        System.out.println(wrong + " of " + answers + " answers are not as due");
        if (wrong != 0 || answers == 0) {
            System.exit(1);
        }
    }

    private void print(String line) {
        if (wrong <= MOST_PRINTED) {
            System.out.println(line);
        }
    }
}
