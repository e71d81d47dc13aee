/** The limits that the document names in 'What it is' and 'Terms'. */
public final class TermsTest {
    private static final int MOST_CALLS = 512;

    private final Check check = new Check();

    public static void main(String[] args) {
        TermsTest test = new TermsTest();
        test.callsOfALongSearch();
        test.callsOfManyLevels();
        test.callsOfManySearches();
        test.theLastCall();
        test.valuesAre0To15();
        test.rulesAreNumberedInTheOrderOfMaking();
        test.differOfEveryTwoValues();
        test.exceedOfEveryTwoValues();
        test.totalOfEveryThreeValues();
        test.listWithoutAnEntry();
        test.listWithTwelveEntries();
        test.entryOfOneValue();
        test.entryOfAnyValue();
        test.entryThatMatchesAtTwoPlacesOnly();
        test.closingGoesOnAsLongAsItCan();
        test.rootWithoutVariables();
        test.rootWithOneValueEach();
        test.rootThatFails();
        test.branchVariableHasMoreThanOneValue();
        test.branchVariableOfFewAndManyRules();
        test.branchVariableBesideOneOrTwoValues();
        test.branchVariableOfARuleAboutThree();
        test.branchVariableOfSeveral();
        test.trialsInRisingOrder();
        test.failedTrialsDoNotCountAsNodes();
        test.check.end();
    }

    /** 'An object is used for at most 512 calls': as many visits as there can be. */
    private void callsOfALongSearch() {
        TrailedDomains object = new TrailedDomains();
        Worlds.barren(object);
        check.due("search()", object.search(), true);
        int calls = 11;
        while (calls < MOST_CALLS - 4) {
            check.due("call " + calls + ": advance(20)", object.advance(20), 1);
            calls++;
        }
        // 576 of the nodes of depth 5 with their sixteen trials, and the next such node.
        check.due("call 509: visits()", object.visits(), 9940);
        check.due("call 510: fails()", object.fails(), 9216);
        check.due("call 511: found()", object.found(), 0);
        check.due("call 512: depth()", object.depth(), 5);
    }

    private void callsOfManyLevels() {
        TrailedDomains object = Check.withVariables(65535, 65535);
        for (int calls = 2; calls + 5 < MOST_CALLS; calls += 5) {
            check.due("push()", object.push(), 1);
            check.due("differ(0, 1, 3)", object.differ(0, 1, 3), 0);
            check.due("remove(0, 15)", object.remove(0, 15), true);
            check.due("close()", object.close(), 0);
            check.due("pop()", object.pop(), 0);
        }
        check.due("domain(0) at last", object.domain(0), 65535);
    }

    private void callsOfManySearches() {
        TrailedDomains object = Check.withVariables(1 << 15 | 1);
        for (int calls = 1; calls + 4 < MOST_CALLS; calls += 5) {
            check.due("search()", object.search(), true);
            check.due("the first", object.advance(20), 2);
            check.due("the second", object.advance(20), 2);
            check.due("the end", object.advance(20), 0);
            check.due("found()", object.found(), 2);
        }
    }

    /** Whatever the 512th call is, it is answered as any other. */
    private void theLastCall() {
        check.due("variable", lookedAt(0).variable(1), 4);
        check.due("entry", lookedAt(0).entry(0, 1, 1, 1), true);
        check.due("differ", lookedAt(0).differ(0, 1, 1), 7);
        check.due("exceed", lookedAt(0).exceed(0, 1, 1), 7);
        check.due("total", lookedAt(0).total(0, 1, 2, 1), 7);
        check.due("listed", lookedAt(0).listed(0, 1, 2, 3), 7);
        check.due("remove", lookedAt(0).remove(3, 2), true);
        check.due("close", lookedAt(0).close(), 1);
        check.due("push", lookedAt(0).push(), 1);
        check.due("pop", lookedAt(0).pop(), -1);
        check.due("search", lookedAt(0).search(), true);
        check.due("advance", lookedAt(4).advance(20), 2);
        check.due("stop", lookedAt(4).stop(), true);
        check.due("domain", lookedAt(4).domain(0), 1);
        check.due("supports", lookedAt(4).supports(3, 1, 0), 1);
        check.due("rules", lookedAt(4).rules(), 7);
        check.due("depth", lookedAt(4).depth(), 1);
        check.due("visits", lookedAt(4).visits(), 4);
        check.due("fails", lookedAt(4).fails(), 2);
        check.due("found", lookedAt(4).found(), 0);
    }

    /** Worlds.small(), with visits of a search if there are to be some, after 511 calls. */
    private static TrailedDomains lookedAt(int visits) {
        TrailedDomains object = new TrailedDomains();
        int calls = 14;
        if (visits == 0) {
            Worlds.small(object);
        } else {
            Worlds.search(object, Worlds::small, visits);
            calls += 1 + visits;
        }
        for (; calls < MOST_CALLS - 1; calls++) {
            object.domain(0);
        }
        return object;
    }

    /** 'a set of values 0 .. 15, written as an int in which bit v is set if v is in it' */
    private void valuesAre0To15() {
        for (int v = 0; v < 16; v++) {
            TrailedDomains object = Check.withVariables(65535, 1 << v);
            check.due("all but " + v, object.remove(0, v), true);
            check.dueDomains("all but " + v, object, 65535 - (1 << v), 1 << v);
            object.exceed(0, 1, 0);
            check.due("more than " + v + ": close()", object.close(), v == 15 ? -1 : v);
            check.dueDomains("more than " + v, object, v == 15 ? 32767 : 65535 & -(2 << v), 1 << v);
        }
    }

    private void rulesAreNumberedInTheOrderOfMaking() {
        TrailedDomains object = Check.withVariables(65535, 65535);
        for (int k = 0; k < 16; k++) {
            check.due("rule " + k, object.exceed(0, 1, k - 4), k);
        }
        for (int k = 0; k < 16; k++) {
            check.due("supports(" + k + ", 0, 8)", object.supports(k, 0, 8), Math.min(16, Math.max(0, 13 - k)));
        }
    }

    private void differOfEveryTwoValues() {
        for (int c = -15; c <= 15; c++) {
            for (int a = 0; a < 16; a++) {
                for (int b = 0; b < 16; b++) {
                    TrailedDomains object = Check.withVariables(1 << a, 1 << b);
                    object.differ(0, 1, c);
                    String what = a + " and " + b + " differ by " + c;
                    check.due(what + ": close()", object.close(), a == b + c ? -1 : 0);
                    check.due(what + ": supports(0, 0, a)", object.supports(0, 0, a), a == b + c ? 0 : 1);
                    check.due(what + ": supports(0, 1, b)", object.supports(0, 1, b), a == b + c ? 0 : 1);
                }
            }
        }
    }

    private void exceedOfEveryTwoValues() {
        for (int c = -15; c <= 15; c++) {
            for (int a = 0; a < 16; a++) {
                for (int b = 0; b < 16; b++) {
                    TrailedDomains object = Check.withVariables(1 << a, 1 << b);
                    object.exceed(0, 1, c);
                    String what = a + " exceeds " + b + " by " + c;
                    check.due(what + ": close()", object.close(), a >= b + c ? 0 : -1);
                    check.due(what + ": supports(0, 0, a)", object.supports(0, 0, a), a >= b + c ? 1 : 0);
                    check.due(what + ": supports(0, 1, b)", object.supports(0, 1, b), a >= b + c ? 1 : 0);
                }
            }
        }
    }

    private void totalOfEveryThreeValues() {
        for (int s = 0; s <= 45; s++) {
            for (int pair = 0; pair < 256; pair++) {
                int a = pair / 16;
                int b = pair % 16;
                TrailedDomains object = Check.withVariables(1 << a, 1 << b, 65535);
                object.total(0, 1, 2, s);
                int c = s - a - b;
                boolean canBeMet = c >= 0 && c < 16;
                String what = a + " and " + b + " in a total of " + s;
                check.due(what + ": supports(0, 0, a)", object.supports(0, 0, a), canBeMet ? 1 : 0);
                check.due(what + ": supports(0, 1, b)", object.supports(0, 1, b), canBeMet ? 1 : 0);
                check.due(what + ": close()", object.close(), canBeMet ? 15 : -1);
                check.due(what + ": domain(2)", object.domain(2), canBeMet ? 1 << c : 65535);
            }
        }
    }

    /** 'never, if it has none' */
    private void listWithoutAnEntry() {
        for (int r = 0; r < 4; r++) {
            TrailedDomains object = Check.withVariables(65535, 65535, 65535);
            for (int other = 0; other < 4; other++) {
                if (other != r) {
                    object.entry(other, -1, -1, -1);
                }
            }
            object.listed(r, 0, 1, 2);
            for (int v = 0; v < 16; v++) {
                check.due("no entry: supports(0, 0, " + v + ")", object.supports(0, 0, v), 0);
                check.due("no entry: supports(0, 1, " + v + ")", object.supports(0, 1, v), 0);
                check.due("no entry: supports(0, 2, " + v + ")", object.supports(0, 2, v), 0);
            }
            check.due("no entry: close()", object.close(), -1);
            object.search();
            check.due("no entry: advance(20)", object.advance(20), 0);
            check.due("no entry: fails()", object.fails(), 1);
        }
    }

    private void listWithTwelveEntries() {
        for (int r = 0; r < 4; r++) {
            TrailedDomains object = Check.withVariables(65535, 65535, 65535);
            for (int e = 0; e <= 12; e++) {
                check.due("entry " + e, object.entry(r, e, e + 1, e + 2), e < 12);
            }
            object.listed(r, 0, 1, 2);
            for (int v = 0; v < 16; v++) {
                check.due("twelve entries: a is " + v, object.supports(0, 0, v), v < 12 ? 1 : 0);
                check.due("twelve entries: b is " + v, object.supports(0, 1, v), v >= 1 && v < 13 ? 1 : 0);
                check.due("twelve entries: c is " + v, object.supports(0, 2, v), v >= 2 && v < 14 ? 1 : 0);
            }
            check.due("twelve entries: close()", object.close(), 12);
            check.dueDomains("twelve entries", object, 4095, 4095 << 1, 4095 << 2);
        }
    }

    private void entryOfOneValue() {
        for (int v = 0; v < 16; v++) {
            TrailedDomains object = Check.withVariables(65535, 65535, 65535);
            object.entry(3, v, 15 - v, (v + 5) % 16);
            object.listed(3, 0, 1, 2);
            for (int w = 0; w < 16; w++) {
                check.due("a is " + v + ", not " + w, object.supports(0, 0, w), w == v ? 1 : 0);
                check.due("b is " + (15 - v) + ", not " + w, object.supports(0, 1, w), w == 15 - v ? 1 : 0);
                check.due("c is " + (v + 5) % 16 + ", not " + w, object.supports(0, 2, w), w == (v + 5) % 16 ? 1 : 0);
            }
        }
    }

    /** '-1, which any value matches', at each place and at all of them. */
    private void entryOfAnyValue() {
        for (int place = 0; place < 3; place++) {
            TrailedDomains object = Check.withVariables(65535, 65535, 65535);
            object.entry(2, place == 0 ? -1 : 7, place == 1 ? -1 : 7, place == 2 ? -1 : 7);
            object.listed(2, 0, 1, 2);
            for (int v = 0; v < 16; v++) {
                check.due("any value at " + place + ": " + v, object.supports(0, place, v), 1);
                check.due("7 beside it: " + v, object.supports(0, (place + 1) % 3, v), v == 7 ? 16 : 0);
            }
            check.due("any value at " + place + ": close()", object.close(), 30);
            check.due("any value at " + place + ": domain", object.domain(place), 65535);
        }
        TrailedDomains all = Check.withVariables(65535, 65535, 65535);
        all.entry(2, -1, -1, -1);
        all.listed(2, 0, 1, 2);
        for (int v = 0; v < 16; v++) {
            check.due("any values: " + v, all.supports(0, 0, v), 256);
        }
        check.due("any values: close()", all.close(), 0);
    }

    /** The value 0 of one place stands only in an entry that has no value of the domain at another place. */
    private void entryThatMatchesAtTwoPlacesOnly() {
        for (int own = 0; own < 3; own++) {
            for (int missing = 0; missing < 3; missing++) {
                if (missing != own) {
                    int[] entry = {1, 1, 1};
                    entry[own] = 0;
                    entry[missing] = 2;
                    TrailedDomains object = Check.withVariables(0b11, 0b11, 0b11);
                    object.entry(1, entry[0], entry[1], entry[2]);
                    object.entry(1, 1, 1, 1);
                    object.listed(1, 0, 1, 2);
                    String what = "0 at " + own + ", 2 at " + missing;
                    check.due(what + ": with 0", object.supports(0, own, 0), 0);
                    check.due(what + ": with 1", object.supports(0, own, 1), 1);
                    check.due(what + ": with 2", object.supports(0, missing, 2), 1);
                    check.due(what + ": close()", object.close(), 3);
                    check.dueDomains(what, object, 0b10, 0b10, 0b10);
                }
            }
        }
    }

    /** 'as long as some value .. is not supported', and 'does not depend on the order' of the rules. */
    private void closingGoesOnAsLongAsItCan() {
        int[][] orders = {{0, 1, 2, 3, 4, 5, 6}, {6, 5, 4, 3, 2, 1, 0}, {0, 2, 4, 6, 1, 3, 5}, {5, 3, 1, 6, 4, 2, 0}};
        for (int[] order : orders) {
            TrailedDomains chain = Check.withVariables(1, 3, 3, 3, 3, 3, 3, 3);
            TrailedDomains ring = Check.withVariables(65535, 65535, 65535, 65535, 65535, 65535, 65535, 65535);
            for (int x : order) {
                chain.differ(x, x + 1, 0);
                ring.exceed(x + 1, x, 0);
            }
            check.due("each value settles the next: close()", chain.close(), 7);
            check.dueDomains("each value settles the next", chain, 1, 2, 1, 2, 1, 2, 1, 2);
            check.due("all may be the same: close()", ring.close(), 0);
            ring.remove(7, 15);
            check.due("one may not be 15, so none: close()", ring.close(), 7);
            ring.exceed(0, 7, 1);
            check.due("each is more than itself: close()", ring.close(), -1);
            check.dueDomains("each is more than itself", ring,
                    32767, 32767, 32767, 32767, 32767, 32767, 32767, 32767);
        }
    }

    /** 'without variables the root is one' */
    private void rootWithoutVariables() {
        for (int n = 1; n <= 20; n++) {
            TrailedDomains object = new TrailedDomains();
            check.due("no variables: search()", object.search(), true);
            check.due("no variables: depth()", object.depth(), 0);
            check.due("no variables: advance(" + n + ")", object.advance(n), 2);
            check.due("no variables: visits()", object.visits(), 1);
            check.due("no variables: fails()", object.fails(), 0);
            check.due("no variables: found()", object.found(), 1);
            check.due("no variables: depth() at the root", object.depth(), 0);
            check.due("no variables: domain(0)", object.domain(0), -1);
            check.due("no variables: the end", object.advance(n), 0);
            check.due("no variables: depth() then", object.depth(), -1);
            check.due("no variables: visits() then", object.visits(), 1);
            check.due("no variables: found() then", object.found(), 1);
        }
    }

    private void rootWithOneValueEach() {
        TrailedDomains object = Check.withVariables(1, 2, 4, 8, 4096, 8192, 16384, 32768);
        object.search();
        check.due("one value each: advance(20)", object.advance(20), 2);
        check.due("one value each: depth()", object.depth(), 0);
        check.due("one value each: the end", object.advance(20), 0);
        check.due("one value each: visits()", object.visits(), 1);
        TrailedDomains open = Check.withVariables(1, 2, 4, 8, 4096, 8192, 16384, 32768 | 1);
        open.search();
        check.due("two values of the last: advance(1)", open.advance(1), 1);
        check.due("two values of the last: advance(1) then", open.advance(1), 2);
        check.due("two values of the last: domain(7)", open.domain(7), 1);
        check.due("two values of the last: advance(1) at last", open.advance(1), 2);
        check.due("two values of the last: domain(7) at last", open.domain(7), 32768);
        check.due("two values of the last: the end", open.advance(1), 0);
        TrailedDomains later = Check.withVariables(0b11);
        later.search();
        check.due("two values: the root", later.advance(1), 1);
        later.stop();
        later.remove(0, 0);
        later.search();
        check.due("one of them gone: the root", later.advance(1), 2);
        check.due("one of them gone: no trial of the search before", later.advance(1), 0);
    }

    /** 'it fails if that is EMPTY, and then no visit is left' */
    private void rootThatFails() {
        TrailedDomains object = Check.withVariables(15, 15, 1, 1);
        object.exceed(0, 1, 1);
        object.differ(2, 3, 0);
        object.search();
        check.due("the root fails: advance(1)", object.advance(1), 1);
        check.dueDomains("no present node: as before the search", object, 15, 15, 1, 1);
        check.due("no present node: depth()", object.depth(), 0);
        check.due("no present node: supports(0, 0, 3)", object.supports(0, 0, 3), 3);
        check.due("no present node: fails()", object.fails(), 1);
        check.due("no visit is left", object.advance(20), 0);
        check.due("no visit was made since", object.visits(), 1);
        check.dueDomains("as before the search", object, 15, 15, 1, 1);
    }

    private void branchVariableHasMoreThanOneValue() {
        for (int open = 0; open < 8; open++) {
            TrailedDomains object = new TrailedDomains();
            for (int x = 0; x < 8; x++) {
                object.variable(x == open ? 0b110 : 1);
            }
            // Sixteen rules would put another variable first, if one value were enough.
            for (int k = 0; k < 16; k++) {
                object.exceed(open == 0 ? 1 : 0, open, -15);
            }
            object.search();
            check.due("variable " + open + " is open: the root", object.advance(1), 1);
            check.due("variable " + open + " is open: a solution", object.advance(1), 2);
            check.due("variable " + open + " is open: its domain", object.domain(open), 0b010);
        }
    }

    /** 16 values with 15 rules against 2 with 1 are the same fraction, and one rule more or less decides. */
    private void branchVariableOfFewAndManyRules() {
        checkFirstTrial("14 rules", branching(14), 65535, 65535, 1, 3);
        checkFirstTrial("15 rules", branching(15), 1, 65535, 3, 3);
        TrailedDomains most = Check.withVariables(65535, 65535, 1);
        for (int k = 0; k < 16; k++) {
            most.differ(0, 1, 15 - k);
        }
        most.search();
        most.advance(1);
        check.due("sixteen rules: advance(1)", most.advance(1), 1);
        check.due("sixteen rules: domain(0)", most.domain(0), 1);
        // No rule at all: 2 values against 3, and 3 against 3.
        checkFirstTrial("no rules, fewer values", Check.withVariables(7, 3, 7), 7, 1, 7);
        checkFirstTrial("no rules, as many values", Check.withVariables(7, 14, 7), 1, 14, 7);
    }

    private static TrailedDomains branching(int rules) {
        TrailedDomains object = Check.withVariables(65535, 65535, 3, 3);
        for (int k = 0; k < rules; k++) {
            object.exceed(0, 1, -15);
        }
        object.exceed(2, 3, -15);
        return object;
    }

    private void checkFirstTrial(String what, TrailedDomains object, int... domains) {
        object.search();
        object.advance(2);
        check.dueDomains(what, object, domains);
    }

    /**
     * Variable 1 has 3 values and a rule, 3 / 2. Variable 0 with 2 values comes before it only if a
     * rule about it counts, and that is so if the other variable of that rule has two values, not one.
     */
    private void branchVariableBesideOneOrTwoValues() {
        for (int beside : new int[] {1, 1 << 15, 1 << 15 | 1, 0b0011, 0b0111, 65535}) {
            boolean counts = Integer.bitCount(beside) > 1;
            for (int order = 0; order < 2; order++) {
                TrailedDomains object = Check.withVariables(0b0011, 0b0111, 0b0111, beside);
                object.exceed(1, 2, -15);
                object.exceed(order == 0 ? 0 : 3, order == 0 ? 3 : 0, -15);
                checkFirstTrial("beside " + beside, object, counts ? 1 : 0b0011, counts ? 0b0111 : 1, 0b0111, beside);
            }
        }
    }

    /** Such a rule counts once if one or both of the others have more than one value. */
    private void branchVariableOfARuleAboutThree() {
        int[][] orders = {{0, 2, 3}, {2, 0, 3}, {2, 3, 0}};
        for (int[] order : orders) {
            for (int open = 0; open < 4; open++) {
                for (int values = 3; values <= 4; values++) {
                    int second = open % 2 == 0 ? 1 : 31;
                    int third = open / 2 == 0 ? 1 : 31;
                    TrailedDomains object = Check.withVariables((1 << values) - 1, 0b11, second, third);
                    object.entry(0, -1, -1, -1);
                    object.listed(0, order[0], order[1], order[2]);
                    // 3 / 2 is less than 2 / 1, and 4 / 2 is the same, with a lesser number.
                    boolean isFirst = open > 0;
                    checkFirstTrial("open are " + open, object, isFirst ? 1 : (1 << values) - 1, isFirst ? 0b11 : 1);
                }
                TrailedDomains once = Check.withVariables(31, 0b11, open % 2 == 0 ? 1 : 31, open / 2 == 0 ? 1 : 31);
                once.entry(0, -1, -1, -1);
                once.listed(0, order[0], order[1], order[2]);
                // 5 / 2 is more than 2 / 1; if the rule counted twice, 5 / 3 would be less.
                checkFirstTrial("open are " + open + ", five values", once, 31, 1);
            }
        }
    }

    /** 'of several, that with the least number' */
    private void branchVariableOfSeveral() {
        for (int first = 0; first < 8; first++) {
            TrailedDomains object = new TrailedDomains();
            for (int x = 0; x < 8; x++) {
                object.variable(x < first ? 0b0111 : 0b1010);
            }
            object.search();
            object.advance(2);
            for (int x = 0; x < 8; x++) {
                int due = x < first ? 0b0111 : x == first ? 0b0010 : 0b1010;
                check.due("the least is " + first + ": domain(" + x + ")", object.domain(x), due);
            }
        }
    }

    private void trialsInRisingOrder() {
        TrailedDomains object = Check.withVariables(65535);
        object.search();
        check.due("the root and the first value", object.advance(20), 2);
        for (int v = 0; v < 16; v++) {
            check.due("value " + v + ": domain(0)", object.domain(0), 1 << v);
            check.due("value " + v + ": found()", object.found(), v + 1);
            check.due("after value " + v, object.advance(20), v < 15 ? 2 : 0);
        }
        TrailedDomains ends = Check.withVariables(1 << 15 | 1 << 7 | 1);
        ends.search();
        for (int v : new int[] {0, 7, 15}) {
            check.due("the next solution", ends.advance(20), 2);
            check.due("of a value that is there", ends.domain(0), 1 << v);
        }
        check.due("no value is left", ends.advance(20), 0);
    }

    /** 'the next trial of the latest visited node .., where nodes of failed trials do not count' */
    private void failedTrialsDoNotCountAsNodes() {
        TrailedDomains object = Refusals.after(o -> Worlds.search(o, Worlds::barren, 6));
        for (int trial = 1; trial <= 16; trial++) {
            check.due("trial " + trial + " fails: advance(1)", object.advance(1), 1);
            check.due("trial " + trial + " fails: fails()", object.fails(), trial);
            check.due("trial " + trial + " fails: depth()", object.depth(), 5);
            check.dueDomains("trial " + trial + " fails", object, 1, 1, 1, 1, 1, 65535, 65535, 65535);
        }
        check.due("the next trial of the node above", object.advance(1), 1);
        check.due("the next trial of the node above: depth()", object.depth(), 5);
        check.dueDomains("the next trial of the node above", object, 1, 1, 1, 1, 2, 65535, 65535, 65535);
    }
}
