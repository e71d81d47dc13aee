import java.util.ArrayDeque;
import java.util.ArrayList;
import java.util.Deque;
import java.util.List;

/**
 * The document once more, for comparison: every answer is worked out from the words by trying all
 * values, without a thought of speed, and a search is written down as the whole row of its visits.
 */
final class PlainDomains {
    private record Rule(char kind, int[] members, int number) {
    }

    private record Level(int[] domains, int ruleCount) {
    }

    /** What the object shows after a visit. */
    private record Visit(int[] domains, int depth, boolean failed, boolean solution) {
    }

    private final List<List<int[]>> lists = List.of(
            new ArrayList<>(), new ArrayList<>(), new ArrayList<>(), new ArrayList<>());
    private final List<Rule> rules = new ArrayList<>();
    private final Deque<Level> levels = new ArrayDeque<>();
    private int[] domains = new int[0];

    private boolean searching = false;
    private int[] domainsBefore = new int[0];
    private List<Visit> plan = new ArrayList<>();
    private int planned = 0;
    private int visits = 0;

    int variable(int values) {
        if (searching || !levels.isEmpty() || domains.length == 8 || values < 1 || values > 65535) {
            return -1;
        }
        int[] longer = java.util.Arrays.copyOf(domains, domains.length + 1);
        longer[domains.length] = values;
        domains = longer;
        return domains.length - 1;
    }

    boolean entry(int r, int a, int b, int c) {
        if (searching || !levels.isEmpty() || r < 0 || r > 3 || lists.get(r).size() == 12) {
            return false;
        }
        for (Rule rule : rules) {
            if (rule.kind == 'L' && rule.number == r) {
                return false;
            }
        }
        for (int place : new int[] {a, b, c}) {
            if (place < -1 || place > 15) {
                return false;
            }
        }
        lists.get(r).add(new int[] {a, b, c});
        return true;
    }

    int differ(int x, int y, int c) {
        return c < -15 || c > 15 ? -1 : make('D', c, x, y);
    }

    int exceed(int x, int y, int c) {
        return c < -15 || c > 15 ? -1 : make('E', c, x, y);
    }

    int total(int x, int y, int z, int s) {
        return s < 0 || s > 45 ? -1 : make('T', s, x, y, z);
    }

    int listed(int r, int x, int y, int z) {
        return r < 0 || r > 3 ? -1 : make('L', r, x, y, z);
    }

    private int make(char kind, int number, int... members) {
        if (searching || rules.size() == 16) {
            return -1;
        }
        for (int i = 0; i < members.length; i++) {
            if (members[i] < 0 || members[i] >= domains.length) {
                return -1;
            }
            for (int j = 0; j < i; j++) {
                if (members[i] == members[j]) {
                    return -1;
                }
            }
        }
        rules.add(new Rule(kind, members, number));
        return rules.size() - 1;
    }

    boolean remove(int x, int v) {
        if (searching || x < 0 || x >= domains.length || v < 0 || v > 15) {
            return false;
        }
        if ((domains[x] & 1 << v) == 0 || domains[x] == 1 << v) {
            return false;
        }
        domains[x] -= 1 << v;
        return true;
    }

    int close() {
        int[] closed = closed(domains);
        if (searching || closed == null) {
            return -1;
        }
        int taken = 0;
        for (int x = 0; x < domains.length; x++) {
            taken += Integer.bitCount(domains[x]) - Integer.bitCount(closed[x]);
        }
        domains = closed;
        return taken;
    }

    int push() {
        if (searching || levels.size() == 10) {
            return -1;
        }
        levels.push(new Level(domains.clone(), rules.size()));
        return levels.size();
    }

    int pop() {
        if (searching || levels.isEmpty()) {
            return -1;
        }
        Level latest = levels.pop();
        domains = latest.domains;
        while (rules.size() > latest.ruleCount) {
            rules.remove(rules.size() - 1);
        }
        return levels.size();
    }

    boolean search() {
        if (searching) {
            return false;
        }
        searching = true;
        domainsBefore = domains.clone();
        visits = 0;
        makePlan(32);
        return true;
    }

    int advance(int n) {
        if (!searching || n < 1 || n > 20) {
            return -1;
        }
        for (int i = 0; i < n; i++) {
            if (visits == planned) {
                makePlan(2 * planned);
            }
            if (visits == plan.size()) {
                stop();
                return 0;
            }
            Visit visit = plan.get(visits);
            domains = visit.domains.clone();
            visits++;
            if (visit.solution) {
                return 2;
            }
        }
        return 1;
    }

    boolean stop() {
        if (!searching) {
            return false;
        }
        searching = false;
        domains = domainsBefore.clone();
        return true;
    }

    int domain(int x) {
        return x < 0 || x >= domains.length ? -1 : domains[x];
    }

    int supports(int k, int x, int v) {
        if (k < 0 || k >= rules.size() || v < 0 || v > 15) {
            return -1;
        }
        return about(rules.get(k), x) ? ways(rules.get(k), x, v, domains) : -1;
    }

    int rules() {
        return rules.size();
    }

    int depth() {
        if (!searching) {
            return -1;
        }
        return visits == 0 ? 0 : plan.get(visits - 1).depth;
    }

    int visits() {
        return visits;
    }

    int fails() {
        int count = 0;
        for (Visit visit : plan.subList(0, visits)) {
            count += visit.failed ? 1 : 0;
        }
        return count;
    }

    int found() {
        int count = 0;
        for (Visit visit : plan.subList(0, visits)) {
            count += visit.solution ? 1 : 0;
        }
        return count;
    }

    private static boolean about(Rule rule, int x) {
        for (int member : rule.members) {
            if (member == x) {
                return true;
            }
        }
        return false;
    }

    private boolean met(Rule rule, int a, int b, int c) {
        switch (rule.kind) {
            case 'D':
                return a != b + rule.number;
            case 'E':
                return a >= b + rule.number;
            case 'T':
                return a + b + c == rule.number;
            default:
                for (int[] entry : lists.get(rule.number)) {
                    if (matches(entry[0], a) && matches(entry[1], b) && matches(entry[2], c)) {
                        return true;
                    }
                }
                return false;
        }
    }

    private static boolean matches(int place, int value) {
        return place == -1 || place == value;
    }

    private int ways(Rule rule, int x, int v, int[] in) {
        int count = 0;
        for (int a = 0; a < 16; a++) {
            for (int b = 0; b < 16; b++) {
                for (int c = 0; c < (rule.members.length == 3 ? 16 : 1); c++) {
                    int[] values = {a, b, c};
                    boolean stands = met(rule, a, b, c);
                    for (int i = 0; i < rule.members.length && stands; i++) {
                        int y = rule.members[i];
                        stands = y == x ? values[i] == v : (in[y] >> values[i] & 1) == 1;
                    }
                    count += stands ? 1 : 0;
                }
            }
        }
        return count;
    }

    /** The domains after closing, or null if they are EMPTY. */
    private int[] closed(int[] from) {
        int[] to = from.clone();
        boolean taken = true;
        while (taken) {
            taken = false;
            for (Rule rule : rules) {
                for (int x : rule.members) {
                    for (int v = 0; v < 16; v++) {
                        if ((to[x] >> v & 1) == 1 && ways(rule, x, v, to) == 0) {
                            to[x] -= 1 << v;
                            taken = true;
                        }
                    }
                }
            }
        }
        for (int domain : to) {
            if (domain == 0) {
                return null;
            }
        }
        return to;
    }

    private void makePlan(int most) {
        planned = most;
        plan = new ArrayList<>();
        int[] root = closed(domainsBefore);
        if (root == null) {
            plan.add(new Visit(domainsBefore, 0, true, false));
        } else {
            planNode(root, 0);
        }
    }

    private void planNode(int[] node, int depth) {
        int x = branchVariable(node);
        plan.add(new Visit(node, depth, false, x < 0));
        for (int v = 0; x >= 0 && v < 16 && plan.size() < planned; v++) {
            if ((node[x] >> v & 1) == 1) {
                int[] trial = node.clone();
                trial[x] = 1 << v;
                trial = closed(trial);
                if (trial == null) {
                    plan.add(new Visit(node, depth, true, false));
                } else {
                    planNode(trial, depth + 1);
                }
            }
        }
    }

    private int branchVariable(int[] node) {
        int best = -1;
        for (int x = 0; x < node.length; x++) {
            if (Integer.bitCount(node[x]) > 1 && (best < 0
                    || Integer.bitCount(node[x]) * weight(node, best)
                            < Integer.bitCount(node[best]) * weight(node, x))) {
                best = x;
            }
        }
        return best;
    }

    private int weight(int[] node, int x) {
        int count = 1;
        for (Rule rule : rules) {
            boolean open = false;
            for (int y : rule.members) {
                open = open || y != x && Integer.bitCount(node[y]) > 1;
            }
            count += about(rule, x) && open ? 1 : 0;
        }
        return count;
    }
}
