/** States of an object from which limits are looked at. */
final class Worlds {
    /** How many visits a search in small() makes. */
    static final int VISITS = 14;

    private Worlds() {
    }

    /**
     * Variables 1, 2 and 3 all differ and are at most one more than variable 0. Closing takes 3 from
     * variable 1. A search visits the root, then 0 for variable 0 with two trials that fail, then 1
     * for it with nodes for 0, 1 and 2 of variable 1, each with two solutions below.
     */
    static void small(TrailedDomains object) {
        object.entry(0, 1, -1, 2);
        object.entry(0, 3, 3, 3);
        object.entry(1, -1, -1, -1);
        object.variable(0b0011);
        object.variable(0b1111);
        object.variable(0b0111);
        object.variable(0b0111);
        object.exceed(0, 1, -1);
        object.exceed(0, 2, -1);
        object.exceed(0, 3, -1);
        object.differ(1, 2, 0);
        object.differ(1, 3, 0);
        object.differ(2, 3, 0);
        object.listed(1, 0, 1, 2);
    }

    /** As small(), above a level with a rule made and a value removed since; a search is the same. */
    static void levelled(TrailedDomains object) {
        level(object, Worlds::small);
        object.exceed(3, 0, -15);
    }

    /**
     * Two totals that cannot both be met, which closing sees only when one of their variables has
     * one value, and five variables that come before those in a search: 3125 nodes of depth 5, each
     * with sixteen trials that fail.
     */
    static void barren(TrailedDomains object) {
        for (int x = 0; x < 8; x++) {
            object.variable(x < 5 ? 31 : 65535);
        }
        object.total(5, 6, 7, 20);
        object.total(5, 6, 7, 21);
    }

    /** A level, with a value removed above it if variable 1 has it; a search in small() is the same. */
    static void level(TrailedDomains object, Refusals.Story before) {
        before.tell(object);
        object.push();
        object.remove(1, 3);
    }

    static void variables(TrailedDomains object, int count) {
        for (int x = 0; x < count; x++) {
            object.variable(65535 >> x);
        }
    }

    /** All eight variables, with an entry and a rule. */
    static void eightVariables(TrailedDomains object) {
        object.entry(0, 4, 4, 4);
        variables(object, 8);
        object.differ(0, 7, 1);
    }

    /** Three variables and this many rules, of all kinds, which can all be met. */
    static void rules(TrailedDomains object, int count) {
        object.entry(0, 4, 4, 4);
        object.entry(2, -1, -1, -1);
        variables(object, 3);
        for (int k = 0; k < count; k++) {
            switch (k % 4) {
                case 0 -> object.differ(0, 1, k);
                case 1 -> object.exceed(1, 2, -k);
                case 2 -> object.total(0, 1, 2, 20);
                default -> object.listed(2, 2, 0, 1);
            }
        }
    }

    /** Three variables, a rule, and this many entries in list r. */
    static void entries(TrailedDomains object, int r, int count) {
        variables(object, 3);
        object.differ(0, 1, 15);
        for (int e = 0; e < count; e++) {
            object.entry(r, e, 15 - e, -1);
        }
    }

    static void search(TrailedDomains object, Refusals.Story before, int visits) {
        before.tell(object);
        object.search();
        for (int i = 0; i < visits; i++) {
            object.advance(1);
        }
    }

    static void failAtTheRoot(TrailedDomains object, Refusals.Story before) {
        before.tell(object);
        object.exceed(1, 2, 15);
        object.search();
        object.advance(1);
    }

    static void stopASearch(TrailedDomains object, Refusals.Story before) {
        search(object, before, 3);
        object.stop();
    }

    static void endASearch(TrailedDomains object, Refusals.Story before) {
        search(object, before, VISITS + 1);
    }

    static void pushAndPop(TrailedDomains object, Refusals.Story before, int pushes, int pops) {
        before.tell(object);
        for (int i = 0; i < pushes; i++) {
            object.push();
        }
        for (int i = 0; i < pops; i++) {
            object.pop();
        }
    }
}
