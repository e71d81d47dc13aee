import java.util.Arrays;

/** Promises 9 and 15 to 17: for each limit named there the last answer before it and the first behind. */
public final class ClosingLimitsTest {
    private final Check check = new Check();
    private final Refusals refusals = new Refusals(check);

    public static void main(String[] args) {
        ClosingLimitsTest test = new ClosingLimitsTest();
        test.promise9WhenASearchIsUnderWay();
        test.promise9WhenDifferEmpties();
        test.promise9WhenExceedEmpties();
        test.promise9WhenTotalEmpties();
        test.promise9WhenListedEmpties();
        test.promise9WhenOneOfManyDomainsIsEmpty();
        test.promise9WhenRulesEmptyOnlyTogether();
        test.promise9WhenThereIsNothingToTakeOut();
        test.promise9WhenAllButOneValueAreTakenOut();
        test.promise15WhenThereIsNoVariableX();
        test.promise15WhenASearchIsUnderWay();
        test.promise16WhenThereIsNoRuleK();
        test.promise16WhenTheRuleIsNoMore();
        test.promise16WhenTheRuleIsNotAboutX();
        test.promise16WhenXIsNoVariable();
        test.promise16WhenVIsNot0To15();
        test.promise16WhenVIsNotInTheDomain();
        test.promise16FewestAndMostWays();
        test.promise17FewestAndMostRules();
        test.check.end();
    }

    private void promise9WhenASearchIsUnderWay() {
        refusals.refusedInASearch("close()", Worlds::small, TrailedDomains::close, 1);
    }

    /** Of the values of x only y plus c goes: with one other value x keeps it, with none it is empty. */
    private void promise9WhenDifferEmpties() {
        for (int c = -15; c <= 15; c++) {
            int x = Math.max(c, 0);
            int y = x - c;
            int shift = c;
            int other = (x + 1) % 16;
            TrailedDomains object = Check.withVariables(1 << x | 1 << other, 1 << y);
            object.differ(0, 1, c);
            check.due("differ by " + c + ": close()", object.close(), 1);
            check.dueDomains("differ by " + c, object, 1 << other, 1 << y);
            refusals.refusedAlways("differ by " + c + ", one value: close()", o -> {
                o.variable(1 << x);
                o.variable(1 << y);
                o.differ(0, 1, shift);
            }, TrailedDomains::close);
        }
    }

    private void promise9WhenExceedEmpties() {
        TrailedDomains last = Check.withVariables(0b1111, 0b1111);
        last.exceed(0, 1, 3);
        check.due("exceed by 3: close()", last.close(), 6);
        check.dueDomains("exceed by 3", last, 0b1000, 0b0001);
        refusals.refusedAlways("exceed by 4: close()", o -> {
            o.variable(0b1111);
            o.variable(0b1111);
            o.exceed(0, 1, 4);
        }, TrailedDomains::close);
        TrailedDomains widest = Check.withVariables(65535, 65535);
        widest.exceed(0, 1, 15);
        check.due("exceed by 15: close()", widest.close(), 30);
        check.dueDomains("exceed by 15", widest, 32768, 1);
        TrailedDomains free = Check.withVariables(1, 32768);
        free.exceed(0, 1, -15);
        check.due("exceed by -15: close()", free.close(), 0);
        refusals.refusedAlways("exceed by -14: close()", o -> {
            o.variable(1);
            o.variable(32768);
            o.exceed(0, 1, -14);
        }, TrailedDomains::close);
    }

    private void promise9WhenTotalEmpties() {
        closeTotal(0b1110, 3, 0b0010);
        closeTotal(0b1110, 9, 0b1000);
        closeTotal(65535, 0, 1);
        closeTotal(65535, 45, 32768);
        for (int s : new int[] {2, 10}) {
            refusals.refusedAlways("total " + s + ": close()", o -> {
                o.variable(0b1110);
                o.variable(0b1110);
                o.variable(0b1110);
                o.total(0, 1, 2, s);
            }, TrailedDomains::close);
        }
    }

    private void closeTotal(int domain, int s, int left) {
        TrailedDomains object = Check.withVariables(domain, domain, domain);
        object.total(0, 1, 2, s);
        check.due("total " + s + ": close()", object.close(), 3 * (Integer.bitCount(domain) - 1));
        check.dueDomains("total " + s, object, left, left, left);
    }

    private void promise9WhenListedEmpties() {
        for (int list = 0; list < 4; list++) {
            int r = list;
            refusals.refusedAlways("a list without an entry: close()", o -> {
                Worlds.variables(o, 3);
                o.entry((r + 1) % 4, -1, -1, -1);
                o.listed(r, 0, 1, 2);
            }, TrailedDomains::close);
            TrailedDomains object = Check.withVariables(65535, 65535, 65535);
            object.entry(r, 0, 15, 7);
            object.listed(r, 0, 1, 2);
            check.due("a list with one entry: close()", object.close(), 45);
            check.dueDomains("a list with one entry", object, 1, 32768, 128);
        }
        for (int place = 0; place < 3; place++) {
            int without = place;
            refusals.refusedAlways("the only entry does not match at " + place + ": close()", o -> {
                for (int x = 0; x < 3; x++) {
                    o.variable(x == without ? 0b1101 : 0b1111);
                }
                o.entry(0, 1, 1, 1);
                o.listed(0, 0, 1, 2);
            }, TrailedDomains::close);
        }
    }

    /** What was taken from the others before the EMPTY domain was seen is there again. */
    private void promise9WhenOneOfManyDomainsIsEmpty() {
        for (int pair = 0; pair < 4; pair++) {
            int clash = pair;
            refusals.refusedAlways("the pair " + pair + " of four clashes: close()", o -> {
                for (int x = 0; x < 8; x++) {
                    o.variable(x / 2 == clash ? 4 : 0b1111);
                }
                for (int x = 0; x < 8; x += 2) {
                    o.exceed(x, x + 1, 1);
                }
            }, TrailedDomains::close);
        }
    }

    private void promise9WhenRulesEmptyOnlyTogether() {
        TrailedDomains object = Check.withVariables(65535, 65535);
        object.exceed(0, 1, 0);
        object.exceed(1, 0, 0);
        check.due("at least and at most: close()", object.close(), 0);
        refusals.refusedAlways("more and at most: close()", o -> {
            o.variable(65535);
            o.variable(65535);
            o.exceed(0, 1, 1);
            o.exceed(1, 0, 0);
        }, TrailedDomains::close);
    }

    private void promise9WhenThereIsNothingToTakeOut() {
        refusals.taken("no variables: close()", o -> { }, TrailedDomains::close, 0);
        refusals.taken("no rules: close()", o -> Worlds.variables(o, 8), TrailedDomains::close, 0);
        TrailedDomains object = Refusals.after(Worlds::small);
        check.due("one value to take out: close()", object.close(), 1);
        check.dueDomains("one value to take out", object, 0b0011, 0b0111, 0b0111, 0b0111);
        check.due("none any more: close()", object.close(), 0);
        check.dueDomains("none any more", object, 0b0011, 0b0111, 0b0111, 0b0111);
    }

    private void promise9WhenAllButOneValueAreTakenOut() {
        TrailedDomains object = new TrailedDomains();
        for (int x = 0; x < 8; x++) {
            object.variable(x == 0 ? 32768 : 65535);
        }
        for (int x = 7; x > 0; x--) {
            object.exceed(x, x - 1, 0);
        }
        check.due("fifteen values of seven variables: close()", object.close(), 105);
        check.dueDomains("fifteen values of seven variables", object,
                32768, 32768, 32768, 32768, 32768, 32768, 32768, 32768);
    }

    private void promise15WhenThereIsNoVariableX() {
        for (int count = 0; count <= 8; count++) {
            int there = count;
            Refusals.Story story = o -> Worlds.variables(o, there);
            for (int variable = 0; variable < there; variable++) {
                int x = variable;
                refusals.taken("domain(" + x + ") of " + there, story, o -> o.domain(x), 65535 >> x);
            }
            refusals.refusedAlways("domain(" + there + ") of " + there, story, o -> o.domain(there));
        }
        for (int x : Check.outside(0, 7)) {
            refusals.refusedAlways("domain(" + x + ") of eight", Worlds::eightVariables, o -> o.domain(x));
        }
    }

    private void promise15WhenASearchIsUnderWay() {
        for (int visits = 0; visits <= Worlds.VISITS; visits++) {
            int made = visits;
            Refusals.Story story = o -> Worlds.search(o, Worlds::small, made);
            refusals.refusedAlways("domain(-1) after " + made + " visits", story, o -> o.domain(-1));
            refusals.refusedAlways("domain(4) after " + made + " visits", story, o -> o.domain(4));
        }
    }

    private void promise16WhenThereIsNoRuleK() {
        for (int count = 0; count <= 16; count++) {
            int there = count;
            Refusals.Story story = o -> Worlds.rules(o, there);
            for (int k = 0; k < there; k++) {
                check.due("rule " + k + " of " + there, Refusals.after(story).supports(k, 1, 0) >= 0, true);
            }
            refusals.refusedAlways("rule " + there + " of " + there, story, o -> o.supports(there, 1, 0));
            refusals.refusedAlways("rule -1 of " + there, story, o -> o.supports(-1, 1, 0));
        }
        for (int k : Check.outside(0, 15)) {
            refusals.refusedAlways("rule " + k + " of 16", o -> Worlds.rules(o, 16), o -> o.supports(k, 1, 0));
        }
    }

    private void promise16WhenTheRuleIsNoMore() {
        refusals.taken("rule 7 above the level", Worlds::levelled, o -> o.supports(7, 3, 0), 2);
        refusals.refusedAlways("rule 7 after pop()", o -> {
            Worlds.levelled(o);
            o.pop();
        }, o -> o.supports(7, 3, 0));
        refusals.taken("rule 6 after pop()", o -> {
            Worlds.levelled(o);
            o.pop();
        }, o -> o.supports(6, 1, 0), 6);
    }

    private void promise16WhenTheRuleIsNotAboutX() {
        int[][] members = {{0, 1}, {2, 3}, {4, 5, 6}, {7, 0, 4}};
        Refusals.Story story = o -> {
            Worlds.variables(o, 8);
            o.entry(3, -1, -1, -1);
            o.differ(0, 1, 0);
            o.exceed(2, 3, 0);
            o.total(4, 5, 6, 12);
            o.listed(3, 7, 0, 4);
        };
        for (int rule = 0; rule < members.length; rule++) {
            for (int variable = 0; variable < 8; variable++) {
                int k = rule;
                int x = variable;
                String what = "supports(" + k + ", " + x + ", 1)";
                if (Arrays.stream(members[k]).anyMatch(member -> member == x)) {
                    check.due(what + " is more than 0", Refusals.after(story).supports(k, x, 1) > 0, true);
                } else {
                    refusals.refusedAlways(what, story, o -> o.supports(k, x, 1));
                }
            }
        }
    }

    private void promise16WhenXIsNoVariable() {
        for (int rule = 0; rule < 4; rule++) {
            int k = rule;
            for (int x : Check.outside(0, 2)) {
                refusals.refusedAlways("supports(" + k + ", " + x + ", 1)", o -> Worlds.rules(o, 4),
                        o -> o.supports(k, x, 1));
            }
        }
    }

    private void promise16WhenVIsNot0To15() {
        for (int rule = 0; rule < 4; rule++) {
            int k = rule;
            for (int value = 0; value < 16; value++) {
                int v = value;
                check.due("supports(" + k + ", 1, " + v + ") is a number",
                        Refusals.after(o -> Worlds.rules(o, 4)).supports(k, 1, v) >= 0, true);
            }
            for (int v : Check.outside(0, 15)) {
                refusals.refusedAlways("supports(" + k + ", 1, " + v + ")", o -> Worlds.rules(o, 4),
                        o -> o.supports(k, 1, v));
            }
        }
    }

    private void promise16WhenVIsNotInTheDomain() {
        TrailedDomains object = Check.withVariables(0b0110, 0b0011, 0b0011);
        object.entry(0, 0, 0, -1);
        object.entry(0, 15, -1, 1);
        object.differ(0, 1, 0);
        object.exceed(0, 1, 0);
        object.total(0, 1, 2, 1);
        object.listed(0, 0, 1, 2);
        int[][] ways = {
            // with 0, 1 and 15 for variable 0, of which its domain has 1 alone
            {1, 1, 2}, {1, 2, 2}, {2, 1, 0}, {2, 0, 2}};
        for (int k = 0; k < ways.length; k++) {
            check.due("supports(" + k + ", 0, 0)", object.supports(k, 0, 0), ways[k][0]);
            check.due("supports(" + k + ", 0, 1)", object.supports(k, 0, 1), ways[k][1]);
            check.due("supports(" + k + ", 0, 15)", object.supports(k, 0, 15), ways[k][2]);
        }
    }

    private void promise16FewestAndMostWays() {
        TrailedDomains object = Check.withVariables(65535, 65535, 65535);
        object.entry(0, -1, -1, -1);
        object.entry(0, -1, -1, -1);
        object.entry(0, 3, -1, -1);
        object.listed(0, 0, 1, 2);
        object.listed(1, 0, 1, 2);
        object.differ(0, 1, 15);
        object.exceed(0, 1, -15);
        object.total(0, 1, 2, 15);
        object.total(0, 1, 2, 45);
        for (int x = 0; x < 3; x++) {
            check.due("any values, in two or three entries", object.supports(0, x, 3), 256);
            check.due("a list without an entry", object.supports(1, x, 3), 0);
            check.due("total 15, with 0", object.supports(4, x, 0), 16);
            check.due("total 15, with 15", object.supports(4, x, 15), 1);
            check.due("total 45, with 14", object.supports(5, x, 14), 0);
        }
        check.due("nothing is 1 minus 15", object.supports(2, 0, 1), 16);
        check.due("all are at least 15 minus 15", object.supports(3, 1, 15), 16);
    }

    private void promise17FewestAndMostRules() {
        for (int count = 0; count <= 16; count++) {
            int there = count;
            refusals.taken("rules() after " + there, o -> Worlds.rules(o, there), TrailedDomains::rules, there);
        }
        refusals.taken("rules() after a seventeenth was refused", o -> Worlds.rules(o, 17), TrailedDomains::rules, 16);
        for (int visits = 0; visits <= Worlds.VISITS + 1; visits++) {
            int made = visits;
            refusals.taken("rules() after " + made + " visits", o -> Worlds.search(o, Worlds::small, made),
                    TrailedDomains::rules, 7);
        }
    }
}
