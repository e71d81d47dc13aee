/** Promises 12 to 14 and 18 to 21: for each limit named there both sides of it. */
public final class SearchLimitsTest {
    private static final int MOST_VISITS_OF_A_CALL = 20;

    /** Of a search in Worlds.small(), after each visit: the answer, depth, fails, found and the domains. */
    private static final int[][] SMALL_SEARCH = {
        {1, 0, 0, 0, 3, 7, 7, 7},
        {1, 1, 0, 0, 1, 3, 3, 3},
        {1, 1, 1, 0, 1, 3, 3, 3},
        {1, 1, 2, 0, 1, 3, 3, 3},
        {1, 1, 2, 0, 2, 7, 7, 7},
        {1, 2, 2, 0, 2, 1, 6, 6},
        {2, 3, 2, 1, 2, 1, 2, 4},
        {2, 3, 2, 2, 2, 1, 4, 2},
        {1, 2, 2, 2, 2, 2, 5, 5},
        {2, 3, 2, 3, 2, 2, 1, 4},
        {2, 3, 2, 4, 2, 2, 4, 1},
        {1, 2, 2, 4, 2, 4, 3, 3},
        {2, 3, 2, 5, 2, 4, 1, 2},
        {2, 3, 2, 6, 2, 4, 2, 1}};

    private final Check check = new Check();
    private final Refusals refusals = new Refusals(check);

    public static void main(String[] args) {
        SearchLimitsTest test = new SearchLimitsTest();
        test.promise12WhenOneIsUnderWay();
        test.promise13EveryVisitOfASmallSearch(Worlds::small, 0b1111);
        test.promise13EveryVisitOfASmallSearch(Worlds::levelled, 0b0111);
        test.promise13WhenNoSearchIsUnderWay();
        test.promise13WhenNIsNot1To20();
        test.promise13AfterNVisits();
        test.promise13AtOnceAfterASolution();
        test.promise13WhenNoneIsLeftAfterASolution();
        test.promise13WhenNoneIsLeftAfterAFailedTrial();
        test.promise13WhenNoneIsLeftAfterAFailedRoot();
        test.promise14WhenNoneIsUnderWay();
        test.promise18WhenNoSearchIsUnderWay();
        test.promise18WhenThereIsNoPresentNode();
        test.promise18GreatestDepth();
        test.promises19To21WhenThereWasNoSearch();
        test.promises19To21OfTheLatestSearch();
        test.promises19To21WhenTheRootFails();
        test.check.end();
    }

    private void checkCounts(String what, TrailedDomains object, int depth, int visits, int fails, int found) {
        check.due(what + ": depth()", object.depth(), depth);
        check.due(what + ": visits()", object.visits(), visits);
        check.due(what + ": fails()", object.fails(), fails);
        check.due(what + ": found()", object.found(), found);
    }

    private void promise12WhenOneIsUnderWay() {
        refusals.refusedInASearch("search()", Worlds::small, o -> Refusals.number(o.search()), 1);
        refusals.refusedInASearch("search() above a level", Worlds::levelled, o -> Refusals.number(o.search()), 1);
    }

    private void promise13EveryVisitOfASmallSearch(Refusals.Story story, int domainBefore) {
        TrailedDomains object = Refusals.after(story);
        object.search();
        checkCounts("nothing is visited at first", object, 0, 0, 0, 0);
        check.dueDomains("nothing is visited at first", object, 0b0011, domainBefore, 0b0111, 0b0111);
        for (int visit = 0; visit < Worlds.VISITS; visit++) {
            int[] due = SMALL_SEARCH[visit];
            String what = "visit " + visit;
            check.due(what + ": advance(1)", object.advance(1), due[0]);
            checkCounts(what, object, due[1], visit + 1, due[2], due[3]);
            check.dueDomains(what, object, due[4], due[5], due[6], due[7]);
        }
        check.due("none is left: advance(1)", object.advance(1), 0);
        checkCounts("the search has ended", object, -1, Worlds.VISITS, 2, 6);
        check.dueDomains("the search has ended", object, 0b0011, domainBefore, 0b0111, 0b0111);
    }

    private void promise13WhenNoSearchIsUnderWay() {
        for (int n : new int[] {1, MOST_VISITS_OF_A_CALL}) {
            String what = "advance(" + n + ") ";
            refusals.refused(what + "of a new object", o -> { }, o -> o.advance(n));
            refusals.refused(what + "without a search", Worlds::levelled, o -> o.advance(n));
            refusals.refused(what + "after stop()", o -> Worlds.stopASearch(o, Worlds::levelled), o -> o.advance(n));
            refusals.refused(what + "after the end", o -> Worlds.endASearch(o, Worlds::levelled), o -> o.advance(n));
        }
        refusals.taken("advance(1) in a search", o -> Worlds.search(o, Worlds::small, 0), o -> o.advance(1), 1);
    }

    private void promise13WhenNIsNot1To20() {
        for (int visits = 0; visits <= Worlds.VISITS; visits++) {
            int made = visits;
            Refusals.Story story = o -> Worlds.search(o, Worlds::levelled, made);
            for (int n : Check.outside(1, MOST_VISITS_OF_A_CALL)) {
                refusals.refused("advance(" + n + ") after " + made + " visits", story, o -> o.advance(n));
            }
        }
        Refusals.Story failed = o -> Worlds.failAtTheRoot(o, Worlds::small);
        for (int n : Check.outside(1, MOST_VISITS_OF_A_CALL)) {
            refusals.refused("advance(" + n + ") after the root failed", failed, o -> o.advance(n));
            refusals.refused("advance(" + n + ") without a search", Worlds::levelled, o -> o.advance(n));
        }
    }

    private void promise13AfterNVisits() {
        for (int n = 1; n <= MOST_VISITS_OF_A_CALL; n++) {
            TrailedDomains object = Refusals.after(Worlds::barren);
            object.search();
            check.due("advance(" + n + ")", object.advance(n), 1);
            // Six nodes down to depth 5, and then only trials that fail.
            checkCounts("advance(" + n + ")", object, Math.min(n - 1, 5), n, Math.max(n - 6, 0), 0);
            check.due("advance(" + n + ") again", object.advance(n), 1);
            check.due("advance(" + n + ") again: visits()", object.visits(), 2 * n);
        }
    }

    private void promise13AtOnceAfterASolution() {
        for (int n = 1; n <= MOST_VISITS_OF_A_CALL; n++) {
            TrailedDomains object = Refusals.after(Worlds::small);
            object.search();
            check.due("the seventh visit is a solution: advance(" + n + ")", object.advance(n), n < 7 ? 1 : 2);
            check.due("the seventh visit is a solution: visits()", object.visits(), Math.min(n, 7));
        }
        for (int n = 1; n <= MOST_VISITS_OF_A_CALL; n++) {
            TrailedDomains object = Refusals.after(o -> Worlds.search(o, Worlds::small, 7));
            int found = 1;
            for (int due : new int[] {8, 10, 11, 13, 14}) {
                while (object.visits() + n < due) {
                    check.due("no solution yet: advance(" + n + ")", object.advance(n), 1);
                }
                found++;
                check.due("a solution: advance(" + n + ")", object.advance(n), 2);
                check.due("a solution: visits()", object.visits(), due);
                check.due("a solution: found()", object.found(), found);
            }
        }
    }

    private void promise13WhenNoneIsLeftAfterASolution() {
        for (int n = 1; n <= MOST_VISITS_OF_A_CALL; n++) {
            TrailedDomains object = Refusals.after(o -> Worlds.search(o, Worlds::small, Worlds.VISITS));
            checkCounts("the last visit", object, 3, Worlds.VISITS, 2, 6);
            check.due("none is left: advance(" + n + ")", object.advance(n), 0);
            checkCounts("none is left", object, -1, Worlds.VISITS, 2, 6);
            check.dueDomains("none is left", object, 0b0011, 0b1111, 0b0111, 0b0111);
            check.due("the search has ended: search()", object.search(), true);
        }
    }

    /** The search ends when another visit is to be made, not when the last one has been. */
    private void promise13WhenNoneIsLeftAfterAFailedTrial() {
        for (int n = 1; n <= MOST_VISITS_OF_A_CALL; n++) {
            TrailedDomains object = Check.withVariables(3, 3, 3);
            object.differ(0, 1, 0);
            object.differ(1, 2, 0);
            object.differ(2, 0, 0);
            object.search();
            check.due("three visits, two fail: advance(" + n + ")", object.advance(n), n <= 3 ? 1 : 0);
            checkCounts("three visits, two fail", object, n <= 3 ? 0 : -1, Math.min(n, 3),
                    Math.min(n - 1, 2), 0);
            check.due("under way up to the third: stop()", object.stop(), n <= 3);
        }
    }

    private void promise13WhenNoneIsLeftAfterAFailedRoot() {
        for (int n = 1; n <= MOST_VISITS_OF_A_CALL; n++) {
            TrailedDomains object = Refusals.after(Worlds::small);
            object.exceed(1, 2, 15);
            object.search();
            check.due("the root fails: advance(" + n + ")", object.advance(n), n == 1 ? 1 : 0);
            checkCounts("the root fails", object, n == 1 ? 0 : -1, 1, 1, 0);
            check.dueDomains("the root fails", object, 0b0011, 0b1111, 0b0111, 0b0111);
            check.due("the root failed: advance(1)", object.advance(1), n == 1 ? 0 : -1);
            checkCounts("the search has ended", object, -1, 1, 1, 0);
            check.dueDomains("the search has ended", object, 0b0011, 0b1111, 0b0111, 0b0111);
        }
    }

    private void promise14WhenNoneIsUnderWay() {
        Refusals.Call stop = o -> Refusals.number(o.stop());
        refusals.refused("stop() of a new object", o -> { }, stop);
        refusals.refused("stop() without a search", Worlds::levelled, stop);
        refusals.refused("stop() after stop()", o -> Worlds.stopASearch(o, Worlds::levelled), stop);
        refusals.refused("stop() after the end", o -> Worlds.endASearch(o, Worlds::levelled), stop);
        refusals.refused("stop() after the end at the root", o -> {
            Worlds.failAtTheRoot(o, Worlds::small);
            o.advance(1);
        }, stop);
        refusals.taken("stop() after the root failed", o -> Worlds.failAtTheRoot(o, Worlds::small), stop, 1);
        for (int visits = 0; visits <= Worlds.VISITS; visits++) {
            int made = visits;
            TrailedDomains object = Refusals.after(o -> Worlds.search(o, Worlds::small, made));
            check.due("stop() after " + made + " visits", object.stop(), true);
            check.due("stopped: depth()", object.depth(), -1);
            check.due("stopped: visits()", object.visits(), made);
            check.dueDomains("stopped after " + made + " visits", object, 0b0011, 0b1111, 0b0111, 0b0111);
        }
    }

    private void promise18WhenNoSearchIsUnderWay() {
        refusals.refused("depth() of a new object", o -> { }, TrailedDomains::depth);
        refusals.refused("depth() without a search", Worlds::levelled, TrailedDomains::depth);
        refusals.refused("depth() after stop()", o -> Worlds.stopASearch(o, Worlds::levelled), TrailedDomains::depth);
        refusals.refused("depth() after the end", o -> Worlds.endASearch(o, Worlds::levelled), TrailedDomains::depth);
    }

    private void promise18WhenThereIsNoPresentNode() {
        refusals.taken("depth() before the root", o -> Worlds.search(o, Worlds::small, 0), TrailedDomains::depth, 0);
        refusals.taken("depth() after the root failed", o -> Worlds.failAtTheRoot(o, Worlds::small),
                TrailedDomains::depth, 0);
        // Not that of a search before.
        refusals.taken("depth() before the root of another search", o -> {
            Worlds.search(o, Worlds::small, 7);
            o.stop();
            o.search();
        }, TrailedDomains::depth, 0);
        refusals.taken("depth() after the root of another search failed", o -> {
            Worlds.search(o, Worlds::small, 7);
            o.stop();
            Worlds.failAtTheRoot(o, same -> { });
        }, TrailedDomains::depth, 0);
    }

    private void promise18GreatestDepth() {
        for (int count = 0; count <= 8; count++) {
            TrailedDomains object = new TrailedDomains();
            Worlds.variables(object, count);
            object.search();
            for (int depth = 0; depth <= count; depth++) {
                check.due("a visit to depth " + depth, object.advance(1), depth == count ? 2 : 1);
                checkCounts("a visit to depth " + depth, object, depth, depth + 1, 0, depth == count ? 1 : 0);
            }
        }
    }

    private void promises19To21WhenThereWasNoSearch() {
        checkCounts("a new object", new TrailedDomains(), -1, 0, 0, 0);
        checkCounts("no search yet", Refusals.after(Worlds::levelled), -1, 0, 0, 0);
        TrailedDomains closed = Refusals.after(Worlds::small);
        closed.exceed(1, 2, 15);
        check.due("close() that fails", closed.close(), -1);
        checkCounts("close() is no visit", closed, -1, 0, 0, 0);
    }

    private void promises19To21OfTheLatestSearch() {
        TrailedDomains object = Refusals.after(o -> Worlds.endASearch(o, Worlds::small));
        checkCounts("after the end", object, -1, 14, 2, 6);
        object.push();
        object.remove(0, 0);
        object.close();
        object.pop();
        checkCounts("after other calls", object, -1, 14, 2, 6);
        object.search();
        checkCounts("a new search", object, 0, 0, 0, 0);
        object.advance(3);
        checkCounts("a new search under way", object, 1, 3, 1, 0);
        object.stop();
        checkCounts("a new search stopped", object, -1, 3, 1, 0);
        object.search();
        object.stop();
        checkCounts("a search without a visit", object, -1, 0, 0, 0);
    }

    private void promises19To21WhenTheRootFails() {
        TrailedDomains object = Refusals.after(o -> Worlds.failAtTheRoot(o, Worlds::small));
        checkCounts("the root failed", object, 0, 1, 1, 0);
        object.advance(20);
        checkCounts("the search has ended", object, -1, 1, 1, 0);
        TrailedDomains other = Refusals.after(o -> Worlds.search(o, Worlds::small, 1));
        checkCounts("the root did not fail", other, 0, 1, 0, 0);
    }
}
