/** Promises 9 and 15 to 17: close, domain, supports and rules. */
public final class ClosingTest {
    private final Check check = new Check();

    public static void main(String[] args) {
        ClosingTest test = new ClosingTest();
        test.promise9CloseDiffer();
        test.promise9CloseExceed();
        test.promise9CloseTotal();
        test.promise9CloseListed();
        test.promise9CloseFullList();
        test.promise9CloseGoesRound();
        test.promise9LongChain();
        test.promise9CloseEmpty();
        test.promise9CloseDuringASearch();
        test.promise15Domain();
        test.promise16Supports();
        test.promise16SupportsInASearch();
        test.promise17Rules();
        test.check.end();
    }

    private void promise9CloseDiffer() {
        TrailedDomains object = Check.withVariables(0b1111, 0b0010, 0b1111);
        object.differ(0, 1, 2);
        object.differ(1, 2, 1);
        check.due("differ: close()", object.close(), 2);
        check.dueDomains("differ", object, 0b0111, 0b0010, 0b1110);
        check.due("differ: close() again", object.close(), 0);
    }

    private void promise9CloseExceed() {
        TrailedDomains object = Check.withVariables(65535, 65535);
        object.exceed(0, 1, 3);
        check.due("exceed: close()", object.close(), 6);
        check.dueDomains("exceed", object, 65535 - 7, 65535 >> 3);
        object.exceed(1, 0, -4);
        check.due("exceed both ways: close()", object.close(), 0);
        object.remove(1, 0);
        check.due("exceed, one value less: close()", object.close(), 1);
    }

    private void promise9CloseTotal() {
        TrailedDomains object = Check.withVariables(0b101, 0b1001, 65535);
        object.total(0, 1, 2, 12);
        check.due("total: close()", object.close(), 12);
        check.dueDomains("total", object, 0b101, 0b1001, 1 << 12 | 1 << 10 | 1 << 9 | 1 << 7);
    }

    private void promise9CloseListed() {
        TrailedDomains object = Check.withVariables(0b1111, 0b1111, 0b1111);
        object.entry(0, 0, 1, -1);
        object.entry(0, 2, -1, 3);
        object.entry(0, 3, 5, 1);
        object.listed(0, 1, 2, 0);
        check.due("listed: close()", object.close(), 2);
        check.dueDomains("listed", object, 0b1111, 0b0101, 0b1111);
        object.remove(0, 3);
        check.due("listed, without the second entry: close()", object.close(), 4);
        check.dueDomains("listed, without the second entry", object, 0b0111, 0b0001, 0b0010);
    }

    private void promise9CloseFullList() {
        TrailedDomains object = Check.withVariables(65535, 65535, 65535);
        for (int e = 0; e < 12; e++) {
            object.entry(0, e, e, e);
        }
        object.entry(1, 15, 15, 15);
        object.listed(0, 0, 1, 2);
        check.due("a full list: close()", object.close(), 12);
        check.dueDomains("a full list", object, 4095, 4095, 4095);
    }

    private void promise9CloseGoesRound() {
        TrailedDomains object = Check.withVariables(15, 15, 15, 15);
        object.exceed(2, 3, 1);
        object.exceed(1, 2, 1);
        object.exceed(0, 1, 1);
        check.due("a chain: close()", object.close(), 12);
        check.dueDomains("a chain", object, 8, 4, 2, 1);
    }

    private void promise9LongChain() {
        TrailedDomains object = Check.withVariables(65535, 65535, 65535);
        object.exceed(0, 1, 1);
        object.exceed(1, 0, 0);
        object.differ(0, 2, 0);
        check.due("values taken out one by one until none is left", object.close(), -1);
        check.dueDomains("values taken out one by one", object, 65535, 65535, 65535);
        // A ring whose rules stand in such an order that going through them once changes little.
        TrailedDomains ring = Check.withVariables(65535, 65535, 65535, 65535, 65535, 65535, 65535, 65535);
        for (int x : new int[] {0, 2, 4, 6, 1, 3, 5}) {
            ring.exceed(x, x + 1, 0);
        }
        ring.exceed(7, 0, 1);
        check.due("a ring: close()", ring.close(), -1);
    }

    private void promise9CloseEmpty() {
        TrailedDomains object = Check.withVariables(7, 7, 7, 7);
        object.exceed(0, 1, 1);
        object.listed(2, 1, 2, 3);
        check.due("a LISTED rule without entries: close()", object.close(), -1);
        check.dueDomains("a LISTED rule without entries", object, 7, 7, 7, 7);
        TrailedDomains clash = Check.withVariables(1, 1);
        clash.differ(0, 1, 0);
        check.due("two equal values: close()", clash.close(), -1);
        check.dueDomains("two equal values", clash, 1, 1);
        check.due("without rules: close()", Check.withVariables(1, 3).close(), 0);
    }

    private void promise9CloseDuringASearch() {
        TrailedDomains object = Check.withVariables(15, 15);
        object.exceed(0, 1, 1);
        object.search();
        check.due("close() in a search", object.close(), -1);
        check.dueDomains("close() in a search", object, 15, 15);
        object.stop();
        check.due("close() after a search", object.close(), 2);
    }

    private void promise15Domain() {
        TrailedDomains object = Check.withVariables(9, 65535);
        check.due("domain(-1)", object.domain(-1), -1);
        check.due("domain(2)", object.domain(2), -1);
        check.due("domain(8)", object.domain(8), -1);
        for (int far : Check.FAR) {
            check.due("domain(far)", object.domain(far), -1);
        }
        check.dueDomains("domain", object, 9, 65535);
        object.exceed(0, 1, 2);
        object.search();
        check.dueDomains("before the root was visited", object, 9, 65535);
        object.advance(1);
        check.dueDomains("at the root", object, 8, 3);
        object.advance(1);
        check.dueDomains("below the root", object, 8, 1);
        object.stop();
        check.dueDomains("after the search", object, 9, 65535);
    }

    private void promise16Supports() {
        TrailedDomains object = Check.withVariables(7, 7, 7, 7);
        object.entry(1, 1, -1, 2);
        object.entry(1, 1, 2, -1);
        object.entry(1, 1, 2, 2);
        object.differ(0, 1, 0);
        object.listed(1, 0, 1, 3);
        check.due("no rule -1", object.supports(-1, 0, 0), -1);
        check.due("no rule 2", object.supports(2, 0, 0), -1);
        check.due("rule 0 is not about 2", object.supports(0, 2, 0), -1);
        object.push();
        object.exceed(2, 0, 1);
        check.due("rule 1 is not about 2, but the next is", object.supports(1, 2, 0), -1);
        object.pop();
        check.due("rule 1 is not about 2", object.supports(1, 2, 0), -1);
        check.due("no variable -1", object.supports(0, -1, 0), -1);
        check.due("no variable 4", object.supports(0, 4, 0), -1);
        check.due("no value -1", object.supports(0, 0, -1), -1);
        check.due("no value 16", object.supports(0, 0, 16), -1);
        for (int far : Check.FAR) {
            check.due("supports(far, 0, 0)", object.supports(far, 0, 0), -1);
            check.due("supports(0, far, 0)", object.supports(0, far, 0), -1);
            check.due("supports(0, 0, far)", object.supports(0, 0, far), -1);
        }
        check.due("a value of the domain", object.supports(0, 0, 2), 2);
        check.due("a value not in the domain", object.supports(0, 0, 15), 3);
        check.due("three entries match, values count once", object.supports(1, 0, 1), 5);
        check.due("values of the domains only", object.supports(1, 3, 15), 1);
        check.due("no entry matches", object.supports(1, 0, 0), 0);
        check.dueDomains("supports changes nothing", object, 7, 7, 7, 7);
    }

    private void promise16SupportsInASearch() {
        TrailedDomains object = Check.withVariables(7, 7);
        object.exceed(0, 1, 1);
        object.search();
        check.due("before the root was visited", object.supports(0, 0, 2), 2);
        check.due("before the root was visited, of y", object.supports(0, 1, 0), 2);
        object.advance(2);
        check.due("x is 1: with 2 for x", object.supports(0, 0, 2), 1);
        check.due("x is 1: with 0 for y", object.supports(0, 1, 0), 1);
        check.due("x is 1: with 1 for y", object.supports(0, 1, 1), 0);
    }

    private void promise17Rules() {
        TrailedDomains object = Check.withVariables(7, 7, 7);
        check.due("no rule: rules()", object.rules(), 0);
        object.differ(0, 1, 0);
        object.differ(0, 0, 0);
        check.due("one rule, one refused: rules()", object.rules(), 1);
        object.push();
        object.total(0, 1, 2, 3);
        object.search();
        check.due("two rules, in a search: rules()", object.rules(), 2);
        object.stop();
        object.pop();
        check.due("one rule after pop: rules()", object.rules(), 1);
        check.due("rule 1 is no more", object.supports(1, 0, 0), -1);
        check.due("the number is given again", object.exceed(1, 2, 1), 1);
        check.due("rule 1 is the new one", object.supports(1, 1, 1), 1);
        check.due("and is not about variable 0", object.supports(1, 0, 1), -1);
    }
}
