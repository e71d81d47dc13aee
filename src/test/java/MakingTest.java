/** Promises 1 to 8: a new object, variables, entries, the four kinds of rules, and remove. */
public final class MakingTest {
    private final Check check = new Check();

    public static void main(String[] args) {
        MakingTest test = new MakingTest();
        test.promise1NewObject();
        test.promise2Variable();
        test.promise3Entry();
        test.promise3EntryOfAListInUse();
        test.promise4Differ();
        test.promise5Exceed();
        test.promise6Total();
        test.promise7Listed();
        test.promises4To7SixteenRules();
        test.promise8Remove();
        test.promises2To8DuringASearch();
        test.check.end();
    }

    private void promise1NewObject() {
        TrailedDomains object = new TrailedDomains();
        check.due("new: domain(0)", object.domain(0), -1);
        check.due("new: rules()", object.rules(), 0);
        check.due("new: supports(0, 0, 0)", object.supports(0, 0, 0), -1);
        check.due("new: depth()", object.depth(), -1);
        check.due("new: visits()", object.visits(), 0);
        check.due("new: fails()", object.fails(), 0);
        check.due("new: found()", object.found(), 0);
        check.due("new: pop()", object.pop(), -1);
        check.due("new: stop()", object.stop(), false);
        check.due("new: advance(1)", object.advance(1), -1);
        check.due("new: close()", object.close(), 0);
        for (int r = 0; r < 4; r++) {
            TrailedDomains other = Check.withVariables(1, 1, 1);
            check.due("new: listed over an empty list", other.listed(r, 0, 1, 2), 0);
            check.due("new: no entry in list " + r, other.supports(0, 0, 0), 0);
        }
    }

    private void promise2Variable() {
        TrailedDomains object = new TrailedDomains();
        check.due("variable(0)", object.variable(0), -1);
        check.due("variable(-1)", object.variable(-1), -1);
        for (int values : Check.FAR) {
            check.due("variable(" + values + ")", object.variable(values), -1);
        }
        int[] domains = {1, 65535, 32768, 6, 5, 4, 3, 2};
        for (int x = 0; x < 8; x++) {
            check.due("the new domain is not there before", object.domain(x), -1);
            check.due("variable(" + domains[x] + ")", object.variable(domains[x]), x);
        }
        check.due("a ninth variable", object.variable(1), -1);
        for (int x = 0; x < 8; x++) {
            check.due("domain(" + x + ")", object.domain(x), domains[x]);
        }
        TrailedDomains levelled = new TrailedDomains();
        levelled.push();
        check.due("variable above a level", levelled.variable(1), -1);
        levelled.pop();
        check.due("variable when the level is gone", levelled.variable(1), 0);
    }

    private void promise3Entry() {
        TrailedDomains object = new TrailedDomains();
        check.due("entry(-1, ..)", object.entry(-1, 0, 0, 0), false);
        check.due("entry(4, ..)", object.entry(4, 0, 0, 0), false);
        for (int far : Check.FAR) {
            check.due("entry(far, ..)", object.entry(far, 0, 0, 0), false);
            check.due("entry(0, far, ..)", object.entry(0, far, 0, 0), false);
            check.due("entry(0, 0, far, 0)", object.entry(0, 0, far, 0), false);
            check.due("entry(0, 0, 0, far)", object.entry(0, 0, 0, far), false);
        }
        for (int wrong : new int[] {-2, 16}) {
            check.due("entry, a is " + wrong, object.entry(0, wrong, 0, 0), false);
            check.due("entry, b is " + wrong, object.entry(0, 0, wrong, 0), false);
            check.due("entry, c is " + wrong, object.entry(0, 0, 0, wrong), false);
        }
        object.push();
        check.due("entry above a level", object.entry(0, 0, 0, 0), false);
        object.pop();
        for (int e = 0; e < 12; e++) {
            check.due("entry " + e, object.entry(3, e, 15, -1), true);
        }
        check.due("a thirteenth entry", object.entry(3, 12, 15, -1), false);
        check.due("an entry of another list", object.entry(2, -1, -1, -1), true);
        object.variable(65535);
        object.variable(65535);
        object.variable(65535);
        object.listed(3, 0, 1, 2);
        object.listed(2, 0, 1, 2);
        check.due("the twelfth entry counts", object.supports(0, 0, 11), 16);
        check.due("the thirteenth does not", object.supports(0, 0, 12), 0);
        check.due("-1 is matched by any value", object.supports(1, 0, 15), 256);
    }

    private void promise3EntryOfAListInUse() {
        TrailedDomains object = Check.withVariables(7, 7, 7);
        object.total(0, 1, 2, 1);
        check.due("a TOTAL with this number is no LISTED", object.entry(1, 0, 0, 0), true);
        object.push();
        object.listed(1, 0, 1, 2);
        object.pop();
        check.due("the LISTED rule is no more", object.entry(1, 1, 1, 1), true);
        object.listed(1, 2, 1, 0);
        check.due("a LISTED rule has the list", object.entry(1, 2, 2, 2), false);
        check.due("no rule has the list beside it", object.entry(0, 2, 2, 2), true);
        check.due("the refused entry is not there", object.supports(1, 0, 2), 0);
        check.due("the entry made after pop is", object.supports(1, 0, 1), 1);
        TrailedDomains first = Check.withVariables(7, 7, 7);
        first.listed(0, 0, 1, 2);
        check.due("the first rule has the list", first.entry(0, 1, 1, 1), false);
    }

    private void promise4Differ() {
        TrailedDomains object = Check.withVariables(65535, 65535);
        checkTwoVariableFaults("differ", object);
        check.due("differ(0, 1, 15)", object.differ(0, 1, 15), 0);
        check.due("differ(1, 0, -15)", object.differ(1, 0, -15), 1);
        check.due("differ(0, 1, 3)", object.differ(0, 1, 3), 2);
        check.due("differ: 15 is 0 plus 15", object.supports(0, 0, 15), 15);
        check.due("differ: 14 is nothing plus 15", object.supports(0, 0, 14), 16);
        check.due("differ: 0 of y has 15 of x", object.supports(0, 1, 0), 15);
        check.due("differ: 0 is 15 minus 15", object.supports(1, 1, 0), 15);
        check.due("differ: 1 is nothing minus 15", object.supports(1, 1, 1), 16);
        object.remove(1, 4);
        check.due("differ: 7 is 4 plus 3, but 4 is gone", object.supports(2, 0, 7), 15);
        check.due("differ: 8 is 5 plus 3", object.supports(2, 0, 8), 14);
    }

    private void promise5Exceed() {
        TrailedDomains object = Check.withVariables(65535, 65535);
        checkTwoVariableFaults("exceed", object);
        check.due("exceed(0, 1, 15)", object.exceed(0, 1, 15), 0);
        check.due("exceed(0, 1, -15)", object.exceed(0, 1, -15), 1);
        check.due("exceed(1, 0, 2)", object.exceed(1, 0, 2), 2);
        check.due("exceed: 15 is at least 0 plus 15", object.supports(0, 0, 15), 1);
        check.due("exceed: 14 is at least nothing plus 15", object.supports(0, 0, 14), 0);
        check.due("exceed: only 15 is at least 0 plus 15", object.supports(0, 1, 0), 1);
        check.due("exceed: nothing is at least 1 plus 15", object.supports(0, 1, 1), 0);
        check.due("exceed: 0 is at least 15 minus 15", object.supports(1, 0, 0), 16);
        check.due("exceed: 5 is at least 0 .. 3 plus 2", object.supports(2, 1, 5), 4);
        check.due("exceed: 7 .. 15 are at least 5 plus 2", object.supports(2, 0, 5), 9);
    }

    private void checkTwoVariableFaults(String name, TrailedDomains object) {
        int[][] faults = {{0, 0, 1}, {0, 2, 1}, {2, 0, 1}, {-1, 0, 1}, {0, -1, 1}, {0, 1, 16}, {0, 1, -16}};
        for (int[] f : faults) {
            String call = name + "(" + f[0] + ", " + f[1] + ", " + f[2] + ")";
            check.due(call, relate(name, object, f[0], f[1], f[2]), -1);
        }
        for (int far : Check.FAR) {
            check.due(name + "(far, 1, 0)", relate(name, object, far, 1, 0), -1);
            check.due(name + "(0, far, 0)", relate(name, object, 0, far, 0), -1);
            check.due(name + "(0, 1, far)", relate(name, object, 0, 1, far), -1);
        }
        check.due(name + " refused: rules()", object.rules(), 0);
    }

    private static int relate(String name, TrailedDomains object, int x, int y, int c) {
        return name.equals("differ") ? object.differ(x, y, c) : object.exceed(x, y, c);
    }

    private void promise6Total() {
        TrailedDomains object = Check.withVariables(65535, 65535, 65535);
        checkThreeVariableFaults("total", object);
        check.due("total, s is -1", object.total(0, 1, 2, -1), -1);
        check.due("total, s is 46", object.total(0, 1, 2, 46), -1);
        for (int far : Check.FAR) {
            check.due("total, s is far", object.total(0, 1, 2, far), -1);
        }
        check.due("total(0, 1, 2, 0)", object.total(0, 1, 2, 0), 0);
        check.due("total(2, 0, 1, 45)", object.total(2, 0, 1, 45), 1);
        check.due("total(1, 2, 0, 20)", object.total(1, 2, 0, 20), 2);
        check.due("total 0 with 0", object.supports(0, 1, 0), 1);
        check.due("total 0 with 1", object.supports(0, 1, 1), 0);
        check.due("total 45 with 15", object.supports(1, 0, 15), 1);
        check.due("total 45 with 14", object.supports(1, 0, 14), 0);
        check.due("total 20 with 0: 5 + 15 .. 15 + 5", object.supports(2, 2, 0), 11);
        object.remove(0, 10);
        check.due("total 20 with 0, 10 gone", object.supports(2, 2, 0), 10);
        check.due("total 20 with 10 for x, though gone", object.supports(2, 0, 10), 11);
    }

    private void promise7Listed() {
        TrailedDomains object = Check.withVariables(65535, 65535, 65535);
        object.entry(3, 1, 2, 3);
        object.entry(3, 1, -1, 4);
        checkThreeVariableFaults("listed", object);
        check.due("listed, r is -1", object.listed(-1, 0, 1, 2), -1);
        check.due("listed, r is 4", object.listed(4, 0, 1, 2), -1);
        for (int far : Check.FAR) {
            check.due("listed, r is far", object.listed(far, 0, 1, 2), -1);
        }
        check.due("listed(3, 2, 0, 1)", object.listed(3, 2, 0, 1), 0);
        check.due("listed(0, 0, 1, 2)", object.listed(0, 0, 1, 2), 1);
        check.due("listed: the first place is of variable 2", object.supports(0, 2, 1), 17);
        check.due("listed: the second is of variable 0", object.supports(0, 0, 2), 2);
        check.due("listed: the third is of variable 1", object.supports(0, 1, 4), 16);
        check.due("listed: a list without entries", object.supports(1, 0, 0), 0);
    }

    private void checkThreeVariableFaults(String name, TrailedDomains object) {
        int[][] faults = {{0, 0, 1}, {0, 1, 0}, {1, 0, 0}, {3, 0, 1}, {0, 3, 1}, {0, 1, 3}, {-1, 0, 1},
            {0, -1, 1}, {0, 1, -1}};
        for (int[] f : faults) {
            String call = name + " of " + f[0] + ", " + f[1] + ", " + f[2];
            check.due(call, bind(name, object, f[0], f[1], f[2]), -1);
        }
        for (int far : Check.FAR) {
            check.due(name + " of far, 1, 2", bind(name, object, far, 1, 2), -1);
            check.due(name + " of 0, far, 2", bind(name, object, 0, far, 2), -1);
            check.due(name + " of 0, 1, far", bind(name, object, 0, 1, far), -1);
        }
        check.due(name + " refused: rules()", object.rules(), 0);
    }

    private static int bind(String name, TrailedDomains object, int x, int y, int z) {
        return name.equals("total") ? object.total(x, y, z, 1) : object.listed(1, x, y, z);
    }

    private void promises4To7SixteenRules() {
        TrailedDomains object = Check.withVariables(15, 15, 15);
        for (int k = 0; k < 16; k += 4) {
            check.due("rule " + k, object.differ(0, 1, 0), k);
            check.due("rule " + (k + 1), object.exceed(0, 1, 0), k + 1);
            check.due("rule " + (k + 2), object.total(0, 1, 2, 4), k + 2);
            check.due("rule " + (k + 3), object.listed(0, 0, 1, 2), k + 3);
        }
        check.due("a seventeenth rule, DIFFER", object.differ(0, 1, 0), -1);
        check.due("a seventeenth rule, EXCEED", object.exceed(0, 1, 0), -1);
        check.due("a seventeenth rule, TOTAL", object.total(0, 1, 2, 4), -1);
        check.due("a seventeenth rule, LISTED", object.listed(0, 0, 1, 2), -1);
        check.due("sixteen rules", object.rules(), 16);
        check.due("the sixteenth rule", object.supports(15, 0, 0), 0);
    }

    private void promise8Remove() {
        TrailedDomains object = Check.withVariables(32773);
        check.due("remove(1, 0)", object.remove(1, 0), false);
        check.due("remove(-1, 0)", object.remove(-1, 0), false);
        for (int v : new int[] {1, 16, -1, 32, 34, -30, 64}) {
            check.due("remove(0, " + v + ")", object.remove(0, v), false);
        }
        for (int far : Check.FAR) {
            check.due("remove(far, 0)", object.remove(far, 0), false);
            check.due("remove(0, far)", object.remove(0, far), false);
        }
        check.due("nothing is gone", object.domain(0), 32773);
        check.due("remove(0, 15)", object.remove(0, 15), true);
        check.due("remove(0, 15) again", object.remove(0, 15), false);
        check.due("15 is gone", object.domain(0), 5);
        check.due("remove(0, 0)", object.remove(0, 0), true);
        check.due("the only value", object.remove(0, 2), false);
        check.due("it is still there", object.domain(0), 4);
    }

    private void promises2To8DuringASearch() {
        TrailedDomains object = Check.withVariables(15, 15, 15);
        object.search();
        for (int visits = 0; visits < 2; visits++) {
            check.due("variable in a search", object.variable(1), -1);
            check.due("entry in a search", object.entry(0, 0, 0, 0), false);
            check.due("differ in a search", object.differ(0, 1, 0), -1);
            check.due("exceed in a search", object.exceed(0, 1, 0), -1);
            check.due("total in a search", object.total(0, 1, 2, 3), -1);
            check.due("listed in a search", object.listed(0, 0, 1, 2), -1);
            check.due("remove in a search", object.remove(0, 1), false);
            check.due("rules() in a search", object.rules(), 0);
            check.due("domain(0) in a search", object.domain(0), 15);
            check.due("domain(3) in a search", object.domain(3), -1);
            object.advance(1);
        }
        object.stop();
        check.due("differ after a search", object.differ(0, 1, 0), 0);
        check.due("remove after a search", object.remove(0, 1), true);
        check.due("entry after a search", object.entry(0, 0, 0, 0), true);
        check.due("variable after a search", object.variable(1), 3);
    }
}
