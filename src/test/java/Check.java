import java.util.stream.IntStream;

/** Counts the answers that are not as due and ends the test with exit code 1 if there was one. */
final class Check {
    /** Numbers far from every limit of the document, where a shift or a sum could wrap around. */
    static final int[] FAR = {Integer.MIN_VALUE, -65536, 65536, Integer.MAX_VALUE};

    private static final int MOST_PRINTED = 40;

    /** What a shift, a mask or a narrower type would take for nothing. */
    private static final int[] WRAPS = {4, 8, 16, 32, 64, 256, 65536, Integer.MIN_VALUE};

    private int answers = 0;
    private int wrong = 0;

    static TrailedDomains withVariables(int... domains) {
        TrailedDomains object = new TrailedDomains();
        for (int domain : domains) {
            object.variable(domain);
        }
        return object;
    }

    /** The numbers next to the range, some far from it, and those that would wrap around into it. */
    static int[] outside(int least, int greatest) {
        IntStream.Builder numbers = IntStream.builder();
        numbers.add(least - 1).add(greatest + 1).add(Integer.MIN_VALUE).add(Integer.MAX_VALUE);
        for (int wrap : WRAPS) {
            numbers.add(least + wrap).add(least - wrap).add(greatest + wrap).add(greatest - wrap);
        }
        return numbers.build().filter(n -> n < least || n > greatest).distinct().toArray();
    }

    void due(String call, int got, int want) {
        answers++;
        if (got != want) {
            wrong++;
            print(call + " answered " + got + ", due is " + want);
        }
    }

    void due(String call, boolean got, boolean want) {
        answers++;
        if (got != want) {
            wrong++;
            print(call + " answered " + got + ", due is " + want);
        }
    }

    void dueDomains(String what, TrailedDomains object, int... domains) {
        for (int x = 0; x < domains.length; x++) {
            due(what + ": domain(" + x + ")", object.domain(x), domains[x]);
        }
    }

    boolean allRight() {
        return wrong == 0;
    }

    void end() {
        System.out.println(wrong + " of " + answers + " answers are not as due");
        if (wrong != 0 || answers == 0) {
            System.exit(1);
        }
    }

    private void print(String line) {
        if (wrong <= MOST_PRINTED) {
            System.out.println(line);
        }
    }
}
