/**
 * Up to eight variables with domains, rules among them, levels that undo changes, and a search
 * that finds every choice of values which meets all rules once.
 *
 * <p>A domain is an int in which bit v is set if the value v is in it. All rows are made in the
 * constructors and used again, so that no later call makes an object.
 */
public final class TrailedDomains {
    private static final int MOST_VARIABLES = 8;
    private static final int MOST_RULES = 16;
    private static final int MOST_LEVELS = 10;
    private static final int MOST_ENTRIES = 12;
    private static final int MOST_VISITS_OF_A_CALL = 20;
    private static final int LISTS = 4;
    private static final int VALUES = 16;
    private static final int ALL_VALUES = (1 << VALUES) - 1;
    private static final int ANY_VALUE = -1;
    private static final int GREATEST_SHIFT = 15;
    private static final int GREATEST_TOTAL = 45;

    /** The variables of a rule, and the values of an entry, stand at the places 0, 1 and 2. */
    private static final int PLACES = 3;

    private static final int DIFFER = 0;
    private static final int EXCEED = 1;
    private static final int TOTAL = 2;
    private static final int LISTED = 3;

    /** What stands where a variable could be, but none is. */
    private static final int NO_VARIABLE = -1;

    /** The domains as they are now; that of a variable not yet made is 0. */
    private final int[] domains = new int[MOST_VARIABLES];

    private final int[] domainsBeforeClosing = new int[MOST_VARIABLES];
    private final RuleBook book = new RuleBook();
    private final Trail trail = new Trail();
    private final Tree tree = new Tree();
    private int variables = 0;

    public TrailedDomains() {
    }

    public int variable(int values) {
        if (!mayExtend() || variables == MOST_VARIABLES || values < 1 || values > ALL_VALUES) {
            return -1;
        }
        domains[variables] = values;
        variables++;
        return variables - 1;
    }

    public boolean entry(int r, int a, int b, int c) {
        if (!mayExtend() || !isList(r) || book.hasListed(r) || book.lists.isFull(r)) {
            return false;
        }
        if (!isEntryPlace(a) || !isEntryPlace(b) || !isEntryPlace(c)) {
            return false;
        }
        book.lists.append(r, a, b, c);
        return true;
    }

    public int differ(int x, int y, int c) {
        return mayRelate(x, y, c) ? book.append(DIFFER, x, y, NO_VARIABLE, c) : -1;
    }

    public int exceed(int x, int y, int c) {
        return mayRelate(x, y, c) ? book.append(EXCEED, x, y, NO_VARIABLE, c) : -1;
    }

    public int total(int x, int y, int z, int s) {
        if (!mayMakeRule() || !areThreeVariables(x, y, z) || s < 0 || s > GREATEST_TOTAL) {
            return -1;
        }
        return book.append(TOTAL, x, y, z, s);
    }

    public int listed(int r, int x, int y, int z) {
        if (!mayMakeRule() || !isList(r) || !areThreeVariables(x, y, z)) {
            return -1;
        }
        return book.append(LISTED, x, y, z, r);
    }

    public boolean remove(int x, int v) {
        if (tree.isUnderWay || !isVariable(x) || !has(domains[x], v) || !isOpen(domains[x])) {
            return false;
        }
        domains[x] ^= 1 << v;
        return true;
    }

    public int close() {
        if (tree.isUnderWay) {
            return -1;
        }
        System.arraycopy(domains, 0, domainsBeforeClosing, 0, MOST_VARIABLES);
        if (!book.narrow(domains)) {
            System.arraycopy(domainsBeforeClosing, 0, domains, 0, MOST_VARIABLES);
            return -1;
        }
        return countValues(domainsBeforeClosing) - countValues(domains);
    }

    public int push() {
        if (tree.isUnderWay || trail.levels == MOST_LEVELS) {
            return -1;
        }
        trail.save(domains, book.size);
        return trail.levels;
    }

    public int pop() {
        if (tree.isUnderWay || trail.levels == 0) {
            return -1;
        }
        book.size = trail.restore(domains);
        return trail.levels;
    }

    public boolean search() {
        if (tree.isUnderWay) {
            return false;
        }
        tree.begin(domains);
        return true;
    }

    public int advance(int n) {
        if (!tree.isUnderWay || n < 1 || n > MOST_VISITS_OF_A_CALL) {
            return -1;
        }
        for (int made = 0; made < n; made++) {
            if (!tree.prepareVisit(domains)) {
                tree.end(domains);
                return 0;
            }
            if (tree.visit(book, domains)) {
                return 2;
            }
        }
        return 1;
    }

    public boolean stop() {
        if (!tree.isUnderWay) {
            return false;
        }
        tree.end(domains);
        return true;
    }

    public int domain(int x) {
        return isVariable(x) ? domains[x] : -1;
    }

    public int supports(int k, int x, int v) {
        if (k < 0 || k >= book.size || !isVariable(x) || v < 0 || v >= VALUES) {
            return -1;
        }
        int place = book.placeOf(k, x);
        return place < 0 ? -1 : book.ways(k, place, v, domains);
    }

    public int rules() {
        return book.size;
    }

    public int depth() {
        return tree.isUnderWay ? Math.max(tree.depthOfPresent, 0) : -1;
    }

    public int visits() {
        return tree.visited;
    }

    public int fails() {
        return tree.failed;
    }

    public int found() {
        return tree.solved;
    }

    /** Variables and entries are not undone by levels, so none may be made above one. */
    private boolean mayExtend() {
        return !tree.isUnderWay && trail.levels == 0;
    }

    private boolean mayMakeRule() {
        return !tree.isUnderWay && book.size < MOST_RULES;
    }

    private boolean mayRelate(int x, int y, int c) {
        return mayMakeRule() && isVariable(x) && isVariable(y) && x != y
                && c >= -GREATEST_SHIFT && c <= GREATEST_SHIFT;
    }

    private boolean isVariable(int x) {
        return x >= 0 && x < variables;
    }

    private boolean areThreeVariables(int x, int y, int z) {
        return isVariable(x) && isVariable(y) && isVariable(z) && x != y && y != z && x != z;
    }

    private static boolean isList(int r) {
        return r >= 0 && r < LISTS;
    }

    private static boolean isEntryPlace(int value) {
        return value >= ANY_VALUE && value < VALUES;
    }

    private static boolean has(int domain, int v) {
        return v >= 0 && v < VALUES && (domain >> v & 1) == 1;
    }

    private static boolean isOpen(int domain) {
        return Integer.bitCount(domain) > 1;
    }

    private static int countValues(int[] domains) {
        int count = 0;
        for (int x = 0; x < MOST_VARIABLES; x++) {
            count += Integer.bitCount(domains[x]);
        }
        return count;
    }

    /** The four lists of entries; each place of an entry is held as the set of values it matches. */
    private static final class Lists {
        private final int[] matched = new int[LISTS * MOST_ENTRIES * PLACES];
        private final int[] sizes = new int[LISTS];

        boolean isFull(int r) {
            return sizes[r] == MOST_ENTRIES;
        }

        void append(int r, int a, int b, int c) {
            int start = (r * MOST_ENTRIES + sizes[r]) * PLACES;
            matched[start] = matchedBy(a);
            matched[start + 1] = matchedBy(b);
            matched[start + 2] = matchedBy(c);
            sizes[r]++;
        }

        /** Goes by entries, not by values: closing asks this often, and the entries are few. */
        int supportedAt(int r, int place, int own, int next, int last) {
            int supported = 0;
            for (int e = 0; e < sizes[r]; e++) {
                boolean nextMatches = (matchedAt(r, e, place + 1) & next) != 0;
                boolean lastMatches = (matchedAt(r, e, place + 2) & last) != 0;
                if (nextMatches && lastMatches) {
                    supported |= matchedAt(r, e, place);
                }
            }
            return supported & own;
        }

        /** Goes by values, not by entries: values that several entries match count once. */
        int waysAt(int r, int place, int v, int next, int last) {
            int ways = 0;
            for (int a = 0; a < VALUES; a++) {
                if (has(next, a)) {
                    ways += Integer.bitCount(lastsBeside(r, place, v, a) & last);
                }
            }
            return ways;
        }

        /** The values that the last variable may have beside v at this place and a at the next one. */
        private int lastsBeside(int r, int place, int v, int a) {
            int lasts = 0;
            for (int e = 0; e < sizes[r]; e++) {
                if (has(matchedAt(r, e, place), v) && has(matchedAt(r, e, place + 1), a)) {
                    lasts |= matchedAt(r, e, place + 2);
                }
            }
            return lasts;
        }

        private int matchedAt(int r, int e, int place) {
            return matched[(r * MOST_ENTRIES + e) * PLACES + place % PLACES];
        }

        private static int matchedBy(int value) {
            return value == ANY_VALUE ? ALL_VALUES : 1 << value;
        }
    }

    /** The rules in the order of making, and the lists that some of them read. */
    private static final class RuleBook {
        /** A round that does not end the closing takes out at least one value of all there can be. */
        private static final int MOST_ROUNDS = MOST_VARIABLES * VALUES + 1;

        final Lists lists = new Lists();
        int size = 0;

        private final int[] kinds = new int[MOST_RULES];
        private final int[] members = new int[MOST_RULES * PLACES];

        /** For each rule its c, its s or the number of its list. */
        private final int[] numbers = new int[MOST_RULES];

        int append(int kind, int x, int y, int z, int number) {
            kinds[size] = kind;
            numbers[size] = number;
            members[size * PLACES] = x;
            members[size * PLACES + 1] = y;
            members[size * PLACES + 2] = z;
            size++;
            return size - 1;
        }

        boolean hasListed(int r) {
            for (int k = 0; k < size; k++) {
                if (kinds[k] == LISTED && numbers[k] == r) {
                    return true;
                }
            }
            return false;
        }

        /** The place of x among the variables of rule k, or -1. */
        int placeOf(int k, int x) {
            for (int place = 0; place < width(k); place++) {
                if (members[k * PLACES + place] == x) {
                    return place;
                }
            }
            return -1;
        }

        /** How many rules about x are about another open variable too. */
        int countOpenRules(int x, int[] domains) {
            int count = 0;
            for (int k = 0; k < size; k++) {
                if (placeOf(k, x) >= 0 && hasOpenBeside(k, x, domains)) {
                    count++;
                }
            }
            return count;
        }

        private boolean hasOpenBeside(int k, int x, int[] domains) {
            for (int place = 0; place < width(k); place++) {
                int y = members[k * PLACES + place];
                if (y != x && isOpen(domains[y])) {
                    return true;
                }
            }
            return false;
        }

        /**
         * Closes the domains; false if they are EMPTY, and then they may be half closed, for a
         * domain that has become empty stays so and the caller puts the former ones back.
         */
        boolean narrow(int[] domains) {
            boolean changed = true;
            for (int round = 0; changed && round < MOST_ROUNDS; round++) {
                changed = false;
                for (int k = 0; k < size; k++) {
                    for (int place = 0; place < width(k); place++) {
                        int x = members[k * PLACES + place];
                        int supported = supportedAt(k, place, domains);
                        if (supported == 0) {
                            return false;
                        }
                        changed = changed || supported != domains[x];
                        domains[x] = supported;
                    }
                }
            }
            return true;
        }

        private int supportedAt(int k, int place, int[] domains) {
            int own = domainAt(k, place, domains);
            if (kinds[k] == LISTED) {
                int next = domainAt(k, place + 1, domains);
                int last = domainAt(k, place + 2, domains);
                return lists.supportedAt(numbers[k], place, own, next, last);
            }
            int supported = 0;
            for (int v = 0; v < VALUES; v++) {
                if (has(own, v) && ways(k, place, v, domains) > 0) {
                    supported |= 1 << v;
                }
            }
            return supported;
        }

        /** In how many ways rule k is met with v for the variable at this place. */
        int ways(int k, int place, int v, int[] domains) {
            int next = domainAt(k, place + 1, domains);
            if (width(k) == 2) {
                return Integer.bitCount(partners(k, place, v) & next);
            }
            int last = domainAt(k, place + 2, domains);
            if (kinds[k] == TOTAL) {
                return totalWays(numbers[k] - v, next, last);
            }
            return lists.waysAt(numbers[k], place, v, next, last);
        }

        /** The values that rule k, about two variables, lets the other one have beside v. */
        private int partners(int k, int place, int v) {
            int edge = place == 0 ? v - numbers[k] : v + numbers[k];
            int below = valuesBelow(edge);
            int upToEdge = valuesBelow(edge + 1);
            if (kinds[k] == DIFFER) {
                return ALL_VALUES ^ upToEdge ^ below;
            }
            return place == 0 ? upToEdge : ALL_VALUES ^ below;
        }

        private static int valuesBelow(int edge) {
            return (1 << Math.max(0, Math.min(edge, VALUES))) - 1;
        }

        private static int totalWays(int rest, int next, int last) {
            int ways = 0;
            for (int a = 0; a < VALUES; a++) {
                if (has(next, a) && has(last, rest - a)) {
                    ways++;
                }
            }
            return ways;
        }

        /** Places go round, so that the two others are always those behind a place. */
        private int domainAt(int k, int place, int[] domains) {
            return domains[members[k * PLACES + place % width(k)]];
        }

        private int width(int k) {
            return kinds[k] == DIFFER || kinds[k] == EXCEED ? 2 : PLACES;
        }
    }

    /** What the domains and the number of rules were when each level was made. */
    private static final class Trail {
        int levels = 0;

        private final int[] domainRows = new int[MOST_LEVELS * MOST_VARIABLES];
        private final int[] ruleCounts = new int[MOST_LEVELS];

        void save(int[] domains, int ruleCount) {
            System.arraycopy(domains, 0, domainRows, levels * MOST_VARIABLES, MOST_VARIABLES);
            ruleCounts[levels] = ruleCount;
            levels++;
        }

        /** Answers the number of rules to go back to. */
        int restore(int[] domains) {
            levels--;
            System.arraycopy(domainRows, levels * MOST_VARIABLES, domains, 0, MOST_VARIABLES);
            return ruleCounts[levels];
        }
    }

    /**
     * The search: the nodes from the root down to the present one. Every trial leaves one value to
     * one variable more, so no node is deeper than the number of variables.
     */
    private static final class Tree {
        private static final int NO_NODE = -1;
        private static final int MOST_NODES = MOST_VARIABLES + 1;

        boolean isUnderWay = false;
        int depthOfPresent = NO_NODE;
        int visited = 0;
        int failed = 0;
        int solved = 0;

        /** Row 0 has the domains before the search, row d + 1 those of the node of depth d. */
        private final int[] domainRows = new int[(MOST_NODES + 1) * MOST_VARIABLES];

        private final int[] branchVariables = new int[MOST_NODES];

        /** For each node the values of its branch variable that have not been tried. */
        private final int[] untried = new int[MOST_NODES];

        private boolean isRootVisited = false;

        void begin(int[] domains) {
            isUnderWay = true;
            isRootVisited = false;
            depthOfPresent = NO_NODE;
            visited = 0;
            failed = 0;
            solved = 0;
            saveRow(domains);
        }

        void end(int[] domains) {
            isUnderWay = false;
            depthOfPresent = NO_NODE;
            loadRow(domains);
        }

        /** Makes the domains those that the next visit is to close; false if no visit is left. */
        boolean prepareVisit(int[] domains) {
            if (!isRootVisited) {
                isRootVisited = true;
                return true;
            }
            while (depthOfPresent >= 0 && untried[depthOfPresent] == 0) {
                depthOfPresent--;
            }
            if (depthOfPresent < 0) {
                return false;
            }
            int value = untried[depthOfPresent] & -untried[depthOfPresent];
            untried[depthOfPresent] ^= value;
            loadRow(domains);
            domains[branchVariables[depthOfPresent]] = value;
            return true;
        }

        /** Answers whether a solution was visited. */
        boolean visit(RuleBook book, int[] domains) {
            visited++;
            if (!book.narrow(domains)) {
                failed++;
                loadRow(domains);
                return false;
            }
            depthOfPresent++;
            saveRow(domains);
            int x = branchVariable(book, domains);
            if (x == NO_VARIABLE) {
                untried[depthOfPresent] = 0;
                solved++;
                return true;
            }
            branchVariables[depthOfPresent] = x;
            untried[depthOfPresent] = domains[x];
            return false;
        }

        private static int branchVariable(RuleBook book, int[] domains) {
            int best = NO_VARIABLE;
            int bestValues = 0;
            int bestRules = 0;
            for (int x = 0; x < MOST_VARIABLES; x++) {
                if (isOpen(domains[x])) {
                    int values = Integer.bitCount(domains[x]);
                    int rules = 1 + book.countOpenRules(x, domains);
                    // Fractions are compared crosswise, for a division would not be exact.
                    if (best == NO_VARIABLE || values * bestRules < bestValues * rules) {
                        best = x;
                        bestValues = values;
                        bestRules = rules;
                    }
                }
            }
            return best;
        }

        private void saveRow(int[] domains) {
            System.arraycopy(domains, 0, domainRows, (depthOfPresent + 1) * MOST_VARIABLES, MOST_VARIABLES);
        }

        private void loadRow(int[] domains) {
            System.arraycopy(domainRows, (depthOfPresent + 1) * MOST_VARIABLES, domains, 0, MOST_VARIABLES);
        }
    }
}
