/** Promises 12 to 14 and 18 to 21: search, advance, stop, depth, visits, fails and found. */
public final class SearchTest {
    private static final int[] WRONG_NUMBERS = {Integer.MIN_VALUE, -1, 0, 21, Integer.MAX_VALUE};

    private final Check check = new Check();

    public static void main(String[] args) {
        SearchTest test = new SearchTest();
        test.promise12Search();
        test.promise13WrongNumbers();
        test.promise13AnswersOfASmallTree();
        test.promise13ManyVisitsAtOnce();
        test.promise13RootFails();
        test.promise13RootIsASolution();
        test.promise13NoVariables();
        test.promise13TrialFails();
        test.promise13BranchByFraction();
        test.promise13BranchCountsOpenRulesOnly();
        test.promise13DeepestTree();
        test.promise13EveryChoiceOnce();
        test.promise14Stop();
        test.promise14NothingLeftOver();
        test.promises18To21CountsStartAnew();
        test.check.end();
    }

    private void checkCounts(String what, TrailedDomains object, int depth, int visits, int fails, int found) {
        check.due(what + ": depth()", object.depth(), depth);
        check.due(what + ": visits()", object.visits(), visits);
        check.due(what + ": fails()", object.fails(), fails);
        check.due(what + ": found()", object.found(), found);
    }

    private void promise12Search() {
        TrailedDomains object = Check.withVariables(7, 7);
        object.exceed(0, 1, 1);
        check.due("search()", object.search(), true);
        checkCounts("nothing visited", object, 0, 0, 0, 0);
        check.dueDomains("nothing visited", object, 7, 7);
        check.due("search() at once again", object.search(), false);
        object.advance(2);
        check.due("search() under way", object.search(), false);
        checkCounts("the refused search() changes nothing", object, 1, 2, 0, 1);
        check.dueDomains("the refused search() changes nothing", object, 2, 1);
    }

    private void promise13WrongNumbers() {
        TrailedDomains object = Check.withVariables(7, 7);
        check.due("advance(1) without a search", object.advance(1), -1);
        object.search();
        object.advance(1);
        for (int n : WRONG_NUMBERS) {
            check.due("advance(" + n + ")", object.advance(n), -1);
        }
        checkCounts("refused advance()", object, 0, 1, 0, 0);
        check.due("advance(20) with a solution at once", object.advance(20), 2);
    }

    private void promise13AnswersOfASmallTree() {
        TrailedDomains object = Check.withVariables(5, 3);
        object.search();
        int[][] visits = {
            // the answer, the domains, depth, visits and found
            {1, 5, 3, 0, 1, 0}, {1, 1, 3, 1, 2, 0}, {2, 1, 1, 2, 3, 1}, {2, 1, 2, 2, 4, 2},
            {1, 4, 3, 1, 5, 2}, {2, 4, 1, 2, 6, 3}, {2, 4, 2, 2, 7, 4}};
        for (int[] due : visits) {
            String what = "visit " + due[4];
            check.due(what + ": advance(1)", object.advance(1), due[0]);
            check.dueDomains(what, object, due[1], due[2]);
            checkCounts(what, object, due[3], due[4], 0, due[5]);
        }
        check.due("no visit is left: advance(1)", object.advance(1), 0);
        check.dueDomains("the search has ended", object, 5, 3);
        checkCounts("the search has ended", object, -1, 7, 0, 4);
        check.due("the search has ended: advance(1)", object.advance(1), -1);
        check.due("the search has ended: stop()", object.stop(), false);
    }

    private void promise13ManyVisitsAtOnce() {
        TrailedDomains object = Check.withVariables(3, 3, 3, 3, 3, 3, 3, 3);
        object.search();
        check.due("eight visits", object.advance(8), 1);
        checkCounts("eight visits", object, 7, 8, 0, 0);
        check.due("the ninth is a solution", object.advance(20), 2);
        check.due("the tenth is too, at once", object.advance(20), 2);
        checkCounts("ten visits", object, 8, 10, 0, 2);
        check.due("the eleventh is none", object.advance(1), 1);
        checkCounts("eleven visits", object, 7, 11, 0, 2);
    }

    private void promise13RootFails() {
        TrailedDomains object = Check.withVariables(7, 7);
        object.exceed(0, 1, 3);
        object.search();
        check.due("the root fails: advance(1)", object.advance(1), 1);
        checkCounts("the root failed", object, 0, 1, 1, 0);
        check.dueDomains("the root failed", object, 7, 7);
        check.due("the search is still under way", object.search(), false);
        check.due("no visit is left: advance(1)", object.advance(1), 0);
        checkCounts("the search has ended", object, -1, 1, 1, 0);
        object.search();
        check.due("all in one: advance(2)", object.advance(2), 0);
        checkCounts("all in one", object, -1, 1, 1, 0);
    }

    private void promise13RootIsASolution() {
        TrailedDomains object = Check.withVariables(3, 3);
        object.exceed(0, 1, 1);
        object.search();
        check.due("advance(20) at the root", object.advance(20), 2);
        checkCounts("the root is a solution", object, 0, 1, 0, 1);
        check.dueDomains("the root is a solution", object, 2, 1);
        check.due("advance(20) then", object.advance(20), 0);
        check.dueDomains("the search has ended", object, 3, 3);
    }

    private void promise13NoVariables() {
        TrailedDomains object = new TrailedDomains();
        object.search();
        check.due("no variables: advance(1)", object.advance(1), 2);
        checkCounts("no variables", object, 0, 1, 0, 1);
        check.due("no variables: advance(1) then", object.advance(1), 0);
        checkCounts("no variables, ended", object, -1, 1, 0, 1);
    }

    /** Three variables with two values cannot all differ, which closing alone does not see. */
    private void promise13TrialFails() {
        TrailedDomains object = Check.withVariables(3, 3, 3, 3);
        object.differ(1, 2, 0);
        object.differ(2, 3, 0);
        object.differ(3, 1, 0);
        object.search();
        check.due("the root", object.advance(1), 1);
        check.due("the first trial fails", object.advance(1), 1);
        checkCounts("the first trial failed", object, 0, 2, 1, 0);
        check.dueDomains("the first trial failed", object, 3, 3, 3, 3);
        check.due("the second trial fails", object.advance(1), 1);
        checkCounts("the last trial failed", object, 0, 3, 2, 0);
        check.due("no visit is left", object.advance(1), 0);
        checkCounts("ended", object, -1, 3, 2, 0);

        TrailedDomains lower = Check.withVariables(3, 3, 3, 1);
        lower.entry(0, 1, 0, 0);
        lower.entry(0, 0, 1, 1);
        lower.entry(0, 1, 1, 1);
        lower.listed(0, 0, 1, 2);
        lower.search();
        lower.advance(1);
        check.due("below 0: a solution", lower.advance(1), 2);
        check.due("below 1: a node", lower.advance(1), 1);
        check.dueDomains("below 1", lower, 2, 3, 3, 1);
        checkCounts("below 1", lower, 1, 3, 0, 1);
    }

    private void promise13BranchByFraction() {
        // 4/2, 3/2 and 2/1: the second is least, though the third has fewer values.
        TrailedDomains object = Check.withVariables(15, 7, 3);
        object.differ(0, 1, 9);
        object.search();
        object.advance(2);
        check.dueDomains("the least fraction", object, 15, 1, 3);
        // 5/3 and 3/2 are both 1 in whole numbers; 3/2 is less.
        TrailedDomains exact = Check.withVariables(31, 31, 7, 7);
        exact.differ(0, 1, 15);
        exact.differ(0, 1, 14);
        exact.differ(2, 3, 15);
        exact.search();
        exact.advance(2);
        check.dueDomains("fractions are exact", exact, 31, 31, 1, 7);
        // 4/2 and 2/1 are the same: the least number is taken.
        TrailedDomains same = Check.withVariables(15, 15, 3);
        same.differ(1, 0, 15);
        same.search();
        same.advance(2);
        check.dueDomains("the same fraction", same, 1, 15, 3);
        TrailedDomains later = Check.withVariables(3, 15, 15);
        later.differ(1, 2, 15);
        later.search();
        later.advance(2);
        check.dueDomains("the same fraction, the other way round", later, 1, 15, 15);
    }

    private void promise13BranchCountsOpenRulesOnly() {
        // The rules between 0 and 1 do not count, for 1 has one value; each of the others counts once.
        TrailedDomains object = Check.withVariables(7, 1, 15, 15);
        object.differ(0, 1, 9);
        object.differ(1, 0, 9);
        object.exceed(0, 1, -15);
        object.differ(2, 3, 9);
        object.differ(3, 2, 9);
        object.search();
        object.advance(2);
        check.dueDomains("open rules only", object, 7, 1, 1, 15);
        // A rule about three variables counts once, though two others are open.
        TrailedDomains once = Check.withVariables(31, 31, 31, 7);
        once.entry(0, -1, -1, -1);
        once.listed(0, 0, 1, 2);
        once.search();
        once.advance(2);
        check.dueDomains("a rule counts once", once, 1, 31, 31, 7);
        TrailedDomains fewer = Check.withVariables(127, 127, 127, 7);
        fewer.entry(0, -1, -1, -1);
        fewer.listed(0, 0, 1, 2);
        fewer.search();
        fewer.advance(2);
        check.dueDomains("a rule counts only once", fewer, 127, 127, 127, 1);
        // One of two others is enough, and the variable itself does not count as another.
        TrailedDomains half = Check.withVariables(15, 1, 1, 15, 1, 15);
        half.entry(0, -1, -1, -1);
        half.listed(0, 0, 1, 2);
        half.listed(0, 3, 4, 5);
        half.search();
        half.advance(2);
        check.dueDomains("one of two others", half, 15, 1, 1, 1, 1, 15);
        // A rule that pop has taken away counts no more.
        TrailedDomains popped = Check.withVariables(7, 15, 15);
        popped.push();
        popped.differ(1, 2, 15);
        popped.differ(1, 2, 14);
        popped.pop();
        popped.search();
        popped.advance(2);
        check.dueDomains("rules that are no more", popped, 1, 15, 15);
    }

    private void promise13DeepestTree() {
        TrailedDomains object = Check.withVariables(65535, 65535, 65535, 65535, 65535, 65535, 65535, 65535);
        object.search();
        check.due("down to the first solution", object.advance(20), 2);
        checkCounts("the first solution", object, 8, 9, 0, 1);
        check.dueDomains("the first solution", object, 1, 1, 1, 1, 1, 1, 1, 1);
        for (int v = 1; v < 16; v++) {
            check.due("the solution of value " + v, object.advance(20), 2);
            check.due("the solution of value " + v + ": domain(7)", object.domain(7), 1 << v);
        }
        check.due("the next trial above", object.advance(1), 1);
        checkCounts("the next trial above", object, 7, 25, 0, 16);
        check.dueDomains("the next trial above", object, 1, 1, 1, 1, 1, 1, 2, 65535);
    }

    private void promise13EveryChoiceOnce() {
        TrailedDomains object = Check.withVariables(255, 255, 255);
        object.exceed(0, 1, 1);
        object.exceed(1, 2, 1);
        object.total(0, 1, 2, 9);
        boolean[] seen = new boolean[512];
        object.search();
        int count = 0;
        for (int answer = 1; answer > 0; ) {
            answer = object.advance(20);
            if (answer == 2) {
                int a = Integer.numberOfTrailingZeros(object.domain(0));
                int b = Integer.numberOfTrailingZeros(object.domain(1));
                int c = Integer.numberOfTrailingZeros(object.domain(2));
                check.due("the choice meets the rules", a > b && b > c && a + b + c == 9, true);
                check.due("the choice is new", seen[a << 6 | b << 3 | c], false);
                seen[a << 6 | b << 3 | c] = true;
                count++;
            }
        }
        // 7+2+0, 6+3+0, 6+2+1, 5+4+0, 5+3+1, 4+3+2
        check.due("every choice", count, 6);
        check.due("every choice: found()", object.found(), 6);
    }

    private void promise14Stop() {
        TrailedDomains object = Check.withVariables(7, 7);
        object.exceed(0, 1, 1);
        check.due("stop() without a search", object.stop(), false);
        object.search();
        check.due("stop() before the root", object.stop(), true);
        checkCounts("stopped before the root", object, -1, 0, 0, 0);
        object.search();
        object.advance(2);
        check.dueDomains("at a solution", object, 2, 1);
        check.due("stop() at a solution", object.stop(), true);
        check.dueDomains("stopped", object, 7, 7);
        checkCounts("stopped", object, -1, 2, 0, 1);
        check.due("stop() again", object.stop(), false);
        check.due("advance(1) after stop()", object.advance(1), -1);
        check.due("close() after stop()", object.close(), 2);
    }

    private void promise14NothingLeftOver() {
        TrailedDomains object = Check.withVariables(7, 3);
        object.search();
        object.advance(2);
        check.due("stopped with trials left at depth 1", object.stop(), true);
        object.remove(0, 0);
        object.remove(0, 1);
        object.search();
        object.advance(1);
        check.due("a solution at depth 1", object.advance(1), 2);
        check.due("the next one", object.advance(1), 2);
        check.dueDomains("the next one", object, 4, 2);
        check.due("found()", object.found(), 2);
        object.stop();
        object.search();
        check.due("found() is new", object.found(), 0);
    }

    private void promises18To21CountsStartAnew() {
        TrailedDomains object = Check.withVariables(3, 3, 3);
        object.differ(0, 1, 0);
        object.differ(1, 2, 0);
        object.differ(2, 0, 0);
        object.search();
        object.advance(20);
        checkCounts("the first search", object, -1, 3, 2, 0);
        object.search();
        checkCounts("a new search", object, 0, 0, 0, 0);
        object.advance(2);
        checkCounts("a new search under way", object, 0, 2, 1, 0);
        object.stop();
        object.variable(1);
        object.push();
        object.remove(0, 0);
        checkCounts("other calls leave the counts", object, -1, 2, 1, 0);
        object.search();
        object.advance(1);
        checkCounts("the root fails now", object, 0, 1, 1, 0);
    }
}
