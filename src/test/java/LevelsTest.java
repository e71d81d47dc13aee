/** Promises 10 and 11: push and pop. */
public final class LevelsTest {
    private final Check check = new Check();

    public static void main(String[] args) {
        LevelsTest test = new LevelsTest();
        test.promise10TenLevels();
        test.promise11PopBringsBack();
        test.promise11EachLevelItsOwn();
        test.promise11VariablesAndEntriesStay();
        test.promises10And11DuringASearch();
        test.promises10And11AroundASearch();
        test.check.end();
    }

    private void promise10TenLevels() {
        TrailedDomains object = Check.withVariables(1 << 11 | 2047);
        for (int level = 1; level <= 10; level++) {
            check.due("push()", object.push(), level);
            object.remove(0, level);
        }
        int domain = object.domain(0);
        check.due("an eleventh level", object.push(), -1);
        check.due("the refused push() changes nothing", object.domain(0), domain);
        for (int level = 9; level >= 0; level--) {
            check.due("pop()", object.pop(), level);
            domain |= 1 << level + 1;
            check.due("domain(0) after pop()", object.domain(0), domain);
        }
        check.due("pop() without a level", object.pop(), -1);
        check.due("domain(0) at last", object.domain(0), 1 << 11 | 2047);
    }

    private void promise11PopBringsBack() {
        TrailedDomains object = Check.withVariables(15, 15, 15);
        object.exceed(0, 1, 1);
        object.remove(2, 0);
        check.due("push()", object.push(), 1);
        check.due("push() changes no domain", object.domain(0), 15);
        object.exceed(1, 2, 1);
        object.remove(0, 0);
        object.close();
        check.due("domain(0) above the level", object.domain(0), 8);
        check.due("rules() above the level", object.rules(), 2);
        check.due("pop()", object.pop(), 0);
        check.due("domain(0) after pop()", object.domain(0), 15);
        check.due("domain(1) after pop()", object.domain(1), 15);
        check.due("domain(2) after pop()", object.domain(2), 14);
        check.due("rules() after pop()", object.rules(), 1);
        check.due("the rule of the level is not closed over", object.close(), 2);
        check.due("domain(2) after close()", object.domain(2), 14);
    }

    private void promise11EachLevelItsOwn() {
        TrailedDomains object = Check.withVariables(15, 15);
        object.push();
        object.differ(0, 1, 0);
        object.push();
        object.differ(0, 1, 1);
        object.pop();
        check.due("one level down: rules()", object.rules(), 1);
        object.push();
        object.remove(1, 3);
        object.exceed(0, 1, 2);
        object.exceed(0, 1, 3);
        object.pop();
        check.due("one level down again: rules()", object.rules(), 1);
        check.due("one level down again: domain(1)", object.domain(1), 15);
        object.pop();
        check.due("all levels down: rules()", object.rules(), 0);
    }

    private void promise11VariablesAndEntriesStay() {
        TrailedDomains object = Check.withVariables(15, 15, 15);
        object.entry(0, 1, 1, 1);
        object.push();
        object.push();
        object.pop();
        check.due("variable() while a level is left", object.variable(1), -1);
        check.due("entry() while a level is left", object.entry(0, 2, 2, 2), false);
        object.pop();
        check.due("the variables are there", object.domain(2), 15);
        object.listed(0, 0, 1, 2);
        check.due("the entry is there", object.supports(0, 0, 1), 1);
        check.due("the refused one is not", object.supports(0, 0, 2), 0);
    }

    private void promises10And11DuringASearch() {
        TrailedDomains object = Check.withVariables(3, 3);
        object.push();
        object.search();
        check.due("push() in a search", object.push(), -1);
        check.due("pop() in a search", object.pop(), -1);
        object.advance(3);
        check.due("push() at a solution", object.push(), -1);
        check.due("pop() at a solution", object.pop(), -1);
        check.due("the solution stays", object.domain(0), 1);
        object.stop();
        check.due("push() after the search", object.push(), 2);
        check.due("pop() after the search", object.pop(), 1);
    }

    private void promises10And11AroundASearch() {
        TrailedDomains object = Check.withVariables(7, 7);
        object.push();
        object.remove(0, 0);
        object.exceed(1, 0, 1);
        object.search();
        check.due("a search above a level finds the one solution", object.advance(20), 2);
        check.due("and ends", object.advance(20), 0);
        check.due("domain(0) is as before the search", object.domain(0), 6);
        object.pop();
        check.due("domain(0) is as before the level", object.domain(0), 7);
        check.due("pop() leaves the counts of the search", object.visits(), 1);
        check.due("pop() leaves what was found", object.found(), 1);
    }
}
