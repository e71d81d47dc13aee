/** Promises 1 to 8: for each limit named there the last that is taken and the first that is refused. */
public final class MakingLimitsTest {
    /** A rule of two variables, or the three-variable rules with their number left open. */
    private interface Maker {
        int make(TrailedDomains object, int x, int y, int z, int number);
    }

    private final Check check = new Check();
    private final Refusals refusals = new Refusals(check);

    public static void main(String[] args) {
        MakingLimitsTest test = new MakingLimitsTest();
        test.promise1WhenAnotherObjectIsFull();
        test.promise2WhenASearchIsUnderWay();
        test.promise2WhenThereIsALevel();
        test.promise2WhenEightAreThere();
        test.promise2WhenValuesIsNot1To65535();
        test.promise3WhenASearchIsUnderWay();
        test.promise3WhenThereIsALevel();
        test.promise3WhenRIsNot0To3();
        test.promise3WhenAListedRuleHasR();
        test.promise3WhenTheListedRuleIsTheLastOfSixteen();
        test.promise3WhenTheListedRuleIsNoMore();
        test.promise3WhenTwelveAreThere();
        test.promise3WhenAPlaceIsNotMinus1To15();
        test.promises4And5("differ", (o, x, y, z, number) -> o.differ(x, y, number));
        test.promises4And5("exceed", (o, x, y, z, number) -> o.exceed(x, y, number));
        test.promises6And7("total", (o, x, y, z, number) -> o.total(x, y, z, number));
        test.promises6And7("listed", (o, x, y, z, number) -> o.listed(number, x, y, z));
        test.promise6WhenSIsNot0To45();
        test.promise7WhenRIsNot0To3();
        test.promise8WhenASearchIsUnderWay();
        test.promise8WhenXIsNoVariable();
        test.promise8WhenVIsNotInTheDomain();
        test.promise8WhenVIsTheOnlyValue();
        test.check.end();
    }

    /** 'No variables, rules, entries, levels or search', whatever another object has. */
    private void promise1WhenAnotherObjectIsFull() {
        TrailedDomains full = new TrailedDomains();
        for (int e = 0; e < 48; e++) {
            full.entry(e % 4, -1, -1, -1);
        }
        Worlds.variables(full, 8);
        for (int k = 0; k < 16; k++) {
            full.listed(k % 4, 0, 1, 2);
        }
        for (int level = 0; level < 10; level++) {
            full.push();
        }
        full.search();
        full.advance(20);
        TrailedDomains object = new TrailedDomains();
        check.due("new: rules()", object.rules(), 0);
        check.due("new: depth()", object.depth(), -1);
        check.due("new: visits()", object.visits(), 0);
        check.due("new: fails()", object.fails(), 0);
        check.due("new: found()", object.found(), 0);
        check.due("new: stop()", object.stop(), false);
        check.due("new: pop()", object.pop(), -1);
        for (int x = 0; x < 8; x++) {
            check.due("new: domain(" + x + ")", object.domain(x), -1);
            check.due("new: variable(65535)", object.variable(65535), x);
        }
        for (int r = 0; r < 4; r++) {
            check.due("new: listed of list " + r, object.listed(r, 0, 1, 2), r);
            check.due("new: no entry in list " + r, object.supports(r, 0, 0), 0);
        }
        check.due("new: push()", object.push(), 1);
        check.due("the other is as it was: rules()", full.rules(), 16);
        check.due("the other is as it was: found()", full.found(), 1);
    }

    private void promise2WhenASearchIsUnderWay() {
        refusals.refusedInASearch("variable(1)", Worlds::small, o -> o.variable(1), 4);
    }

    private void promise2WhenThereIsALevel() {
        refusals.refusedAboveALevel("variable(1)", Worlds::small, o -> o.variable(1), 4);
    }

    private void promise2WhenEightAreThere() {
        for (int count = 0; count < 8; count++) {
            int there = count;
            refusals.taken("variable after " + there, o -> Worlds.variables(o, there), o -> o.variable(9), there);
        }
        refusals.refusedAlways("variable(1) after eight", Worlds::eightVariables, o -> o.variable(1));
        refusals.refusedAlways("variable(65535) after eight", Worlds::eightVariables, o -> o.variable(65535));
    }

    private void promise2WhenValuesIsNot1To65535() {
        for (int values : new int[] {1, 2, 32767, 32768, 65534, 65535}) {
            TrailedDomains object = new TrailedDomains();
            check.due("variable(" + values + ")", object.variable(values), 0);
            check.due("variable(" + values + "): domain(0)", object.domain(0), values);
        }
        for (int values : Check.outside(1, 65535)) {
            refusals.refusedAlways("variable(" + values + ")", Worlds::small, o -> o.variable(values));
        }
    }

    private void promise3WhenASearchIsUnderWay() {
        refusals.refusedInASearch("entry(0, 1, 1, 1)", Worlds::small, o -> entry(o, 0, 1, 1, 1), 1);
    }

    private void promise3WhenThereIsALevel() {
        refusals.refusedAboveALevel("entry(0, 1, 1, 1)", Worlds::small, o -> entry(o, 0, 1, 1, 1), 1);
    }

    private void promise3WhenRIsNot0To3() {
        for (int list = 0; list < 4; list++) {
            int r = list;
            refusals.taken("entry of list " + r, o -> Worlds.variables(o, 3), o -> entry(o, r, 1, 1, 1), 1);
        }
        for (int r : Check.outside(0, 3)) {
            refusals.refusedAlways("entry of list " + r, Worlds::small, o -> entry(o, r, 1, 1, 1));
        }
    }

    private void promise3WhenAListedRuleHasR() {
        for (int list = 0; list < 4; list++) {
            int r = list;
            Refusals.Story story = o -> {
                Worlds.variables(o, 3);
                o.entry(r, 2, -1, 3);
                o.listed(r, 2, 1, 0);
            };
            refusals.refusedAlways("entry of list " + r + ", which a rule has", story, o -> entry(o, r, 1, 1, 1));
            for (int beside = 1; beside < 4; beside++) {
                int other = (r + beside) % 4;
                refusals.taken("entry of list " + other + ", which none has", story, o -> entry(o, other, 1, 1, 1), 1);
            }
        }
        // Rules of the other kinds with the same number have no list.
        Refusals.Story others = o -> {
            Worlds.variables(o, 3);
            o.differ(0, 1, 2);
            o.exceed(0, 1, 2);
            o.total(0, 1, 2, 2);
        };
        refusals.taken("entry of list 2, the number of other rules", others, o -> entry(o, 2, 1, 1, 1), 1);
    }

    private void promise3WhenTheListedRuleIsTheLastOfSixteen() {
        Refusals.Story fifteen = o -> {
            Worlds.entries(o, 3, 1);
            for (int k = 1; k < 15; k++) {
                o.differ(0, 1, k);
            }
        };
        refusals.taken("entry, fifteen other rules", fifteen, o -> entry(o, 3, 1, 1, 1), 1);
        Refusals.Story sixteen = o -> {
            fifteen.tell(o);
            o.listed(3, 0, 1, 2);
        };
        refusals.refusedAlways("entry, the sixteenth rule has the list", sixteen, o -> entry(o, 3, 1, 1, 1));
    }

    private void promise3WhenTheListedRuleIsNoMore() {
        Refusals.Story gone = o -> {
            Worlds.small(o);
            o.push();
            o.listed(2, 0, 1, 2);
            o.pop();
        };
        refusals.taken("entry, the rule of list 2 is no more", gone, o -> entry(o, 2, 1, 1, 1), 1);
        refusals.refusedAlways("entry, the rule of list 1 still is", gone, o -> entry(o, 1, 1, 1, 1));
    }

    private void promise3WhenTwelveAreThere() {
        for (int list = 0; list < 4; list++) {
            int r = list;
            for (int count = 0; count < 12; count++) {
                int there = count;
                refusals.taken("entry after " + there, o -> Worlds.entries(o, r, there), o -> entry(o, r, 1, 1, 1), 1);
            }
            refusals.refusedAlways("entry after twelve", o -> Worlds.entries(o, r, 12), o -> entry(o, r, 12, 12, 12));
            refusals.refusedAlways("entry after twelve, as one there", o -> Worlds.entries(o, r, 12),
                    o -> entry(o, r, 11, 4, -1));
            refusals.taken("entry, another list has twelve", o -> Worlds.entries(o, r, 12),
                    o -> entry(o, (r + 1) % 4, 1, 1, 1), 1);
        }
        TrailedDomains object = new TrailedDomains();
        for (int e = 0; e < 48; e++) {
            check.due("entry " + e + " of four lists", object.entry(e % 4, e / 4, e / 4, e / 4), true);
        }
        for (int r = 0; r < 4; r++) {
            check.due("all lists are full", object.entry(r, 1, 1, 1), false);
        }
    }

    private void promise3WhenAPlaceIsNotMinus1To15() {
        for (int value = -1; value <= 15; value++) {
            int v = value;
            refusals.taken("entry, a is " + v, Worlds::small, o -> entry(o, 0, v, 1, 1), 1);
            refusals.taken("entry, b is " + v, Worlds::small, o -> entry(o, 0, 1, v, 1), 1);
            refusals.taken("entry, c is " + v, Worlds::small, o -> entry(o, 0, 1, 1, v), 1);
        }
        for (int v : Check.outside(-1, 15)) {
            refusals.refusedAlways("entry, a is " + v, Worlds::small, o -> entry(o, 0, v, 1, 1));
            refusals.refusedAlways("entry, b is " + v, Worlds::small, o -> entry(o, 0, 1, v, 1));
            refusals.refusedAlways("entry, c is " + v, Worlds::small, o -> entry(o, 0, 1, 1, v));
        }
    }

    private static int entry(TrailedDomains object, int r, int a, int b, int c) {
        return Refusals.number(object.entry(r, a, b, c));
    }

    private void promises4And5(String name, Maker maker) {
        refusals.refusedInASearch(name, Worlds::small, o -> maker.make(o, 0, 1, -1, 0), 7);
        takenAboveALevel(name, maker);
        whenSixteenAreThere(name, maker);
        whenXOrYIsNoVariable(name, maker);
        whenXIsY(name, maker);
        whenCIsNotMinus15To15(name, maker);
    }

    private void promises6And7(String name, Maker maker) {
        refusals.refusedInASearch(name, Worlds::small, o -> maker.make(o, 0, 1, 2, 1), 7);
        takenAboveALevel(name, maker);
        whenSixteenAreThere(name, maker);
        whenOneOfThreeIsNoVariable(name, maker);
        whenTwoOfThreeAreTheSame(name, maker);
    }

    /** Rules are not barred by levels, for levels undo them. */
    private void takenAboveALevel(String name, Maker maker) {
        for (int levels = 1; levels <= 10; levels += 9) {
            int made = levels;
            refusals.taken(name + " above " + made + " levels", o -> Worlds.pushAndPop(o, Worlds::small, made, 0),
                    o -> maker.make(o, 0, 1, 2, 1), 7);
        }
    }

    private void whenSixteenAreThere(String name, Maker maker) {
        for (int count = 0; count < 16; count++) {
            int there = count;
            refusals.taken(name + " after " + there + " rules", o -> Worlds.rules(o, there),
                    o -> maker.make(o, 0, 1, 2, 2), there);
        }
        refusals.refusedAlways(name + " after sixteen rules", o -> Worlds.rules(o, 16), o -> maker.make(o, 0, 1, 2, 2));
        refusals.taken(name + " when the sixteenth is no more", o -> {
            Worlds.rules(o, 15);
            o.push();
            o.differ(0, 2, 1);
            o.pop();
        }, o -> maker.make(o, 0, 1, 2, 2), 15);
    }

    private void whenXOrYIsNoVariable(String name, Maker maker) {
        for (int count = 0; count <= 8; count++) {
            int there = count;
            Refusals.Story story = o -> Worlds.variables(o, there);
            String what = name + ", " + there + " variables, ";
            if (there >= 2) {
                refusals.taken(what + "x is the last", story, o -> maker.make(o, there - 1, 0, -1, 1), 0);
                refusals.taken(what + "y is the last", story, o -> maker.make(o, 0, there - 1, -1, 1), 0);
            }
            refusals.refusedAlways(what + "x is the next", story, o -> maker.make(o, there, 0, -1, 1));
            refusals.refusedAlways(what + "y is the next", story, o -> maker.make(o, 0, there, -1, 1));
            refusals.refusedAlways(what + "x is -1", story, o -> maker.make(o, -1, 0, -1, 1));
            refusals.refusedAlways(what + "y is -1", story, o -> maker.make(o, 0, -1, -1, 1));
        }
        for (int wrong : Check.outside(0, 3)) {
            refusals.refusedAlways(name + ", x is " + wrong, Worlds::small, o -> maker.make(o, wrong, 2, -1, 1));
            refusals.refusedAlways(name + ", y is " + wrong, Worlds::small, o -> maker.make(o, 2, wrong, -1, 1));
        }
    }

    private void whenXIsY(String name, Maker maker) {
        for (int same = -1; same <= 4; same++) {
            int x = same;
            refusals.refusedAlways(name + ", x and y are " + x, Worlds::small, o -> maker.make(o, x, x, -1, 1));
        }
    }

    private void whenCIsNotMinus15To15(String name, Maker maker) {
        for (int c : new int[] {-15, -14, 0, 14, 15}) {
            refusals.taken(name + ", c is " + c, Worlds::small, o -> maker.make(o, 0, 1, -1, c), 7);
        }
        for (int c : Check.outside(-15, 15)) {
            refusals.refusedAlways(name + ", c is " + c, Worlds::small, o -> maker.make(o, 0, 1, -1, c));
        }
    }

    private void whenOneOfThreeIsNoVariable(String name, Maker maker) {
        for (int count = 0; count <= 8; count++) {
            int there = count;
            Refusals.Story story = o -> Worlds.variables(o, there);
            String what = name + ", " + there + " variables, ";
            if (there >= 3) {
                refusals.taken(what + "x is the last", story, o -> maker.make(o, there - 1, 0, 1, 1), 0);
                refusals.taken(what + "y is the last", story, o -> maker.make(o, 0, there - 1, 1, 1), 0);
                refusals.taken(what + "z is the last", story, o -> maker.make(o, 0, 1, there - 1, 1), 0);
            }
            refusals.refusedAlways(what + "x is the next", story, o -> maker.make(o, there, 0, 1, 1));
            refusals.refusedAlways(what + "y is the next", story, o -> maker.make(o, 0, there, 1, 1));
            refusals.refusedAlways(what + "z is the next", story, o -> maker.make(o, 0, 1, there, 1));
        }
        for (int wrong : Check.outside(0, 3)) {
            refusals.refusedAlways(name + ", x is " + wrong, Worlds::small, o -> maker.make(o, wrong, 1, 2, 1));
            refusals.refusedAlways(name + ", y is " + wrong, Worlds::small, o -> maker.make(o, 1, wrong, 2, 1));
            refusals.refusedAlways(name + ", z is " + wrong, Worlds::small, o -> maker.make(o, 1, 2, wrong, 1));
        }
    }

    private void whenTwoOfThreeAreTheSame(String name, Maker maker) {
        for (int x = 0; x < 4; x++) {
            int same = x;
            int other = (x + 1) % 4;
            refusals.refusedAlways(name + ", x is y", Worlds::small, o -> maker.make(o, same, same, other, 1));
            refusals.refusedAlways(name + ", x is z", Worlds::small, o -> maker.make(o, same, other, same, 1));
            refusals.refusedAlways(name + ", y is z", Worlds::small, o -> maker.make(o, other, same, same, 1));
            refusals.refusedAlways(name + ", all are the same", Worlds::small, o -> maker.make(o, same, same, same, 1));
        }
    }

    private void promise6WhenSIsNot0To45() {
        for (int s : new int[] {0, 1, 15, 16, 44, 45}) {
            refusals.taken("total, s is " + s, Worlds::small, o -> o.total(0, 1, 2, s), 7);
        }
        for (int s : Check.outside(0, 45)) {
            refusals.refusedAlways("total, s is " + s, Worlds::small, o -> o.total(0, 1, 2, s));
        }
    }

    private void promise7WhenRIsNot0To3() {
        for (int list = 0; list < 4; list++) {
            int r = list;
            refusals.taken("listed, r is " + r, Worlds::small, o -> o.listed(r, 0, 1, 2), 7);
        }
        for (int r : Check.outside(0, 3)) {
            refusals.refusedAlways("listed, r is " + r, Worlds::small, o -> o.listed(r, 0, 1, 2));
        }
    }

    private void promise8WhenASearchIsUnderWay() {
        refusals.refusedInASearch("remove(3, 2)", Worlds::small, o -> remove(o, 3, 2), 1);
        refusals.taken("remove(3, 2) above a level", Worlds::levelled, o -> remove(o, 3, 2), 1);
    }

    private void promise8WhenXIsNoVariable() {
        for (int count = 0; count <= 8; count++) {
            int there = count;
            Refusals.Story story = o -> Worlds.variables(o, there);
            if (there >= 1) {
                refusals.taken("remove of the last variable", story, o -> remove(o, there - 1, 0), 1);
            }
            refusals.refusedAlways("remove of the next variable", story, o -> remove(o, there, 0));
        }
        for (int x : Check.outside(0, 3)) {
            refusals.refusedAlways("remove(" + x + ", 0)", Worlds::small, o -> remove(o, x, 0));
        }
    }

    private void promise8WhenVIsNotInTheDomain() {
        int domain = 0b1010_0000_0000_0101;
        Refusals.Story story = o -> o.variable(domain);
        for (int value = 0; value < 16; value++) {
            int v = value;
            if ((domain & 1 << v) == 0) {
                refusals.refusedAlways("remove(0, " + v + ")", story, o -> remove(o, 0, v));
            } else {
                TrailedDomains object = Refusals.after(story);
                check.due("remove(0, " + v + ")", object.remove(0, v), true);
                check.due("remove(0, " + v + "): domain(0)", object.domain(0), domain - (1 << v));
            }
        }
        for (int v : Check.outside(0, 15)) {
            refusals.refusedAlways("remove(0, " + v + ")", story, o -> remove(o, 0, v));
            refusals.refusedAlways("remove(0, " + v + ") of all", o -> o.variable(65535), o -> remove(o, 0, v));
            refusals.refusedAlways("remove(1, " + v + ")", Worlds::small, o -> remove(o, 1, v));
        }
        refusals.refusedAlways("remove(0, 2) again", o -> {
            story.tell(o);
            o.remove(0, 2);
        }, o -> remove(o, 0, 2));
        refusals.refusedAlways("remove(1, 3), which closing took out", o -> {
            Worlds.small(o);
            o.close();
        }, o -> remove(o, 1, 3));
    }

    private void promise8WhenVIsTheOnlyValue() {
        for (int value = 0; value < 16; value++) {
            int v = value;
            int other = (v + 1) % 16;
            Refusals.Story alone = o -> o.variable(1 << v);
            Refusals.Story two = o -> o.variable(1 << v | 1 << other);
            Refusals.Story left = o -> {
                two.tell(o);
                o.remove(0, other);
            };
            refusals.refusedAlways("remove(0, " + v + ") of one", alone, o -> remove(o, 0, v));
            refusals.taken("remove(0, " + v + ") of two", two, o -> remove(o, 0, v), 1);
            refusals.refusedAlways("remove(0, " + v + "), the other of two gone", left, o -> remove(o, 0, v));
        }
        refusals.refusedAlways("remove(0, 1), one variable of several", o -> {
            Worlds.small(o);
            o.remove(0, 0);
        }, o -> remove(o, 0, 1));
        TrailedDomains object = Check.withVariables(65535);
        for (int v = 0; v < 15; v++) {
            check.due("remove(0, " + v + ") in turn", object.remove(0, v), true);
        }
        check.due("15 is left", object.domain(0), 32768);
        check.due("remove(0, 15) at last", object.remove(0, 15), false);
        check.due("15 stays", object.domain(0), 32768);
    }

    private static int remove(TrailedDomains object, int x, int v) {
        return Refusals.number(object.remove(x, v));
    }
}
