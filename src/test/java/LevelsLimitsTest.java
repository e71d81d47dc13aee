/** Promises 10 and 11: for each limit named there the last that is taken and the first that is refused. */
public final class LevelsLimitsTest {
    private static final int LEVELS = 10;

    private final Check check = new Check();
    private final Refusals refusals = new Refusals(check);

    public static void main(String[] args) {
        LevelsLimitsTest test = new LevelsLimitsTest();
        test.promise10WhenASearchIsUnderWay();
        test.promise10WhenTenAreThere();
        test.promise10WhenTheTenthWasTakenAway();
        test.promise11WhenASearchIsUnderWay();
        test.promise11WhenThereIsNone();
        test.promise11WhenNothingWasChanged();
        test.promise11OfTenLevelsAndEightVariables();
        test.promise11WhenAllRulesAreNoMore();
        test.promise11WhenADomainIsAsSmallAsCanBe();
        test.check.end();
    }

    private void promise10WhenASearchIsUnderWay() {
        refusals.refusedInASearch("push()", Worlds::small, TrailedDomains::push, 1);
        refusals.refusedInASearch("push() above a level", Worlds::levelled, TrailedDomains::push, 2);
    }

    private void promise10WhenTenAreThere() {
        for (int count = 0; count < LEVELS; count++) {
            int there = count;
            refusals.taken("push() after " + there, o -> Worlds.pushAndPop(o, Worlds::small, there, 0),
                    TrailedDomains::push, there + 1);
        }
        refusals.refused("push() after ten", o -> Worlds.pushAndPop(o, Worlds::small, LEVELS, 0), TrailedDomains::push);
        // Each level has domains of its own, so that a refused one that wrote over another would be seen.
        refusals.refused("push() after ten that differ", this::makeTenLevels, TrailedDomains::push);
        refusals.refused("push() after ten, in a search", o -> Worlds.search(o, this::makeTenLevels, 2),
                TrailedDomains::push);
    }

    private void promise10WhenTheTenthWasTakenAway() {
        refusals.taken("push() after ten and a pop()", o -> Worlds.pushAndPop(o, Worlds::small, LEVELS, 1),
                TrailedDomains::push, LEVELS);
        refusals.taken("push() after ten and ten pop()", o -> Worlds.pushAndPop(o, Worlds::small, LEVELS, LEVELS),
                TrailedDomains::push, 1);
    }

    private void makeTenLevels(TrailedDomains object) {
        Worlds.variables(object, 3);
        for (int level = 0; level < LEVELS; level++) {
            object.push();
            object.remove(0, level);
            object.remove(1, 12 - level);
            object.differ(0, 2, level);
        }
    }

    private void promise11WhenASearchIsUnderWay() {
        refusals.refusedInASearch("pop()", Worlds::levelled, TrailedDomains::pop, 0);
    }

    private void promise11WhenThereIsNone() {
        refusals.refused("pop() of a new object", o -> { }, TrailedDomains::pop);
        refusals.refused("pop() without a level", Worlds::small, TrailedDomains::pop);
        refusals.refused("pop() without a level, in a search", o -> Worlds.search(o, Worlds::small, 2),
                TrailedDomains::pop);
        for (int count = 1; count <= LEVELS; count++) {
            int there = count;
            refusals.taken("pop() of " + there, o -> Worlds.pushAndPop(o, Worlds::small, there, 0),
                    TrailedDomains::pop, there - 1);
            refusals.taken("pop() of the last of " + there, o -> Worlds.pushAndPop(o, Worlds::small, there, there - 1),
                    TrailedDomains::pop, 0);
            refusals.refused("pop() when all " + there + " are gone",
                    o -> Worlds.pushAndPop(o, Worlds::small, there, there), TrailedDomains::pop);
        }
        refusals.refused("pop() after changes without a level", o -> {
            Worlds.levelled(o);
            o.pop();
            o.remove(2, 2);
            o.differ(0, 1, 1);
        }, TrailedDomains::pop);
    }

    private void promise11WhenNothingWasChanged() {
        TrailedDomains object = Refusals.after(Worlds::small);
        object.push();
        check.due("nothing since push(): pop()", object.pop(), 0);
        check.dueDomains("nothing since push()", object, 0b0011, 0b1111, 0b0111, 0b0111);
        check.due("nothing since push(): rules()", object.rules(), 7);
    }

    /** Every level has a domain of its own for every variable, and a number of rules of its own. */
    private void promise11OfTenLevelsAndEightVariables() {
        TrailedDomains object = new TrailedDomains();
        int[][] domains = new int[LEVELS + 1][8];
        for (int x = 0; x < 8; x++) {
            domains[0][x] = 65535;
            object.variable(65535);
        }
        for (int level = 1; level <= LEVELS; level++) {
            check.due("push()", object.push(), level);
            check.due("a rule of level " + level, object.exceed(level % 8, (level + 1) % 8, -15), level - 1);
            for (int x = 0; x < 8; x++) {
                check.due("a value of level " + level, object.remove(x, (level + 2 * x) % 16), true);
                domains[level][x] = domains[level - 1][x] - (1 << (level + 2 * x) % 16);
            }
        }
        for (int level = LEVELS; level >= 0; level--) {
            check.due("rules() of level " + level, object.rules(), level);
            check.dueDomains("level " + level, object, domains[level]);
            check.due("pop() of level " + level, object.pop(), level - 1);
        }
        check.dueDomains("after the refused pop()", object, domains[0]);
    }

    private void promise11WhenAllRulesAreNoMore() {
        TrailedDomains object = new TrailedDomains();
        Worlds.variables(object, 3);
        object.push();
        for (int k = 0; k < 16; k++) {
            check.due("rule " + k + " above a level", object.differ(0, 1, k - 15), k);
        }
        check.due("a seventeenth above a level", object.differ(0, 1, 1), -1);
        check.due("pop()", object.pop(), 0);
        check.due("no rule is left", object.rules(), 0);
        check.due("rule 0 is no more", object.supports(0, 0, 0), -1);
        for (int k = 0; k < 16; k++) {
            check.due("rule " + k + " anew", object.exceed(0, 1, -15), k);
        }
        check.due("a seventeenth anew", object.exceed(0, 1, -15), -1);
        check.due("the rules are the new ones", object.supports(15, 0, 0), 15);
    }

    private void promise11WhenADomainIsAsSmallAsCanBe() {
        TrailedDomains object = Check.withVariables(65535, 65535);
        object.push();
        for (int v = 0; v < 15; v++) {
            object.remove(0, v);
        }
        object.exceed(1, 0, 0);
        check.due("close() above the level", object.close(), 15);
        check.dueDomains("one value each", object, 32768, 32768);
        check.due("pop()", object.pop(), 0);
        check.dueDomains("all values are back", object, 65535, 65535);
        check.due("no rule takes them out", object.close(), 0);
    }
}
