import java.util.ArrayList;
import java.util.Arrays;
import java.util.Collections;
import java.util.List;
import java.util.Random;
import java.util.Set;
import java.util.TreeSet;

/**
 * 'A search finds every choice once', and 'what is left does not depend on the order': the choices
 * are counted by trying all of them, so that nothing here rests on closing or on branch variables.
 */
public final class ChoicesTest {
    private static final int WORLDS = 1500;

    /** An object has 512 calls, and each choice found takes an advance and a look at every domain. */
    private static final int MOST_CHOICES = 40;
    private static final int MOST_ADVANCES = 120;

    private static final int MOST_TRIED = 20000;
    private static final int LIST = 3;

    private record Rule(char kind, int x, int y, int z, int number) {
    }

    private final Check check;
    private final Random random;
    private final String name;
    private final int[] domains;
    private final int[] meant;
    private final List<int[]> entries = new ArrayList<>();
    private final List<Rule> rules = new ArrayList<>();
    private final Set<String> choices = new TreeSet<>();

    private ChoicesTest(Check check, int seed) {
        this.check = check;
        this.random = new Random(seed);
        this.name = "world " + seed;
        this.domains = new int[1 + random.nextInt(8)];
        this.meant = new int[domains.length];
    }

    public static void main(String[] args) {
        Check check = new Check();
        int withChoices = 0;
        int withoutChoices = 0;
        for (int seed = 0; withChoices + withoutChoices < WORLDS && check.allRight(); seed++) {
            ChoicesTest world = new ChoicesTest(check, seed);
            if (world.make()) {
                world.look();
                withChoices += world.choices.isEmpty() ? 0 : 1;
                withoutChoices += world.choices.isEmpty() ? 1 : 0;
            }
        }
        System.out.println(withChoices + " worlds with choices, " + withoutChoices + " without");
        check.due("both kinds of worlds are many", Math.min(withChoices, withoutChoices) > WORLDS / 10, true);
        check.end();
    }

    /** False if the world is too large to be looked through. */
    private boolean make() {
        int tried = 1;
        int width = 2 + random.nextInt(15);
        for (int x = 0; x < domains.length; x++) {
            meant[x] = random.nextInt(width);
            domains[x] = random.nextInt(1 << width) | 1 << meant[x];
            tried *= Integer.bitCount(domains[x]);
            if (tried > MOST_TRIED) {
                return false;
            }
        }
        for (int k = random.nextInt(17); k > 0 && domains.length > 1; k--) {
            makeRule();
        }
        collect(new int[domains.length], 0);
        return choices.size() <= MOST_CHOICES;
    }

    /** Most rules are met by the choice that is meant to be left, but not all. */
    private void makeRule() {
        List<Integer> order = new ArrayList<>();
        for (int x = 0; x < domains.length; x++) {
            order.add(x);
        }
        Collections.shuffle(order, random);
        int x = order.get(0);
        int y = order.get(1);
        int apart = meant[x] - meant[y];
        int kind = random.nextInt(domains.length > 2 ? 6 : 3);
        if (kind < 2) {
            rules.add(new Rule('D', x, y, -1, random.nextInt(31) - 15));
        } else if (kind == 2) {
            rules.add(new Rule('E', x, y, -1, Math.max(-15, apart - random.nextInt(4))));
        } else if (kind == 3) {
            int z = order.get(2);
            rules.add(new Rule('T', x, y, z, meant[x] + meant[y] + meant[z]));
        } else {
            makeEntries(x, y, order.get(2));
            rules.add(new Rule('L', x, y, order.get(2), LIST));
        }
    }

    private void makeEntries(int... members) {
        for (int e = 0; e < 3 && entries.size() < 12; e++) {
            int[] entry = new int[3];
            for (int i = 0; i < 3; i++) {
                int drawn = random.nextInt(17) - 1;
                entry[i] = e == 0 && drawn >= 0 ? meant[members[i]] : drawn;
            }
            entries.add(entry);
        }
    }

    private void collect(int[] values, int x) {
        if (x == domains.length) {
            if (rules.stream().allMatch(rule -> isMet(rule, values))) {
                choices.add(Arrays.toString(values));
            }
            return;
        }
        for (int v = 0; v < 16; v++) {
            if ((domains[x] >> v & 1) == 1) {
                values[x] = v;
                collect(values, x + 1);
            }
        }
    }

    private boolean isMet(Rule rule, int[] values) {
        int a = values[rule.x];
        int b = values[rule.y];
        return switch (rule.kind) {
            case 'D' -> a != b + rule.number;
            case 'E' -> a >= b + rule.number;
            case 'T' -> a + b + values[rule.z] == rule.number;
            default -> entries.stream().anyMatch(entry -> isMatched(entry, a, b, values[rule.z]));
        };
    }

    private static boolean isMatched(int[] entry, int a, int b, int c) {
        return (entry[0] == -1 || entry[0] == a) && (entry[1] == -1 || entry[1] == b)
                && (entry[2] == -1 || entry[2] == c);
    }

    private void look() {
        TrailedDomains object = build(rules);
        lookAtTheSearch(name, object);
        int taken = object.close();
        List<Rule> shuffled = new ArrayList<>(rules);
        Collections.shuffle(shuffled, random);
        TrailedDomains other = build(shuffled);
        check.due(name + ", rules in another order: close()", other.close(), taken);
        for (int x = 0; x < domains.length; x++) {
            int domain = object.domain(x);
            check.due(name + ", rules in another order: domain(" + x + ")", other.domain(x), domain);
            check.due(name + ": close() adds no value to " + x, domain & ~domains[x], 0);
        }
        check.due(name + ": close() while there are choices", taken >= 0 || choices.isEmpty(), true);
        lookAtTheSearch(name + ", closed, rules in another order", other);
    }

    private TrailedDomains build(List<Rule> inOrder) {
        TrailedDomains object = Check.withVariables(domains);
        for (int[] entry : entries) {
            check.due(name + ": entry()", object.entry(LIST, entry[0], entry[1], entry[2]), true);
        }
        int made = 0;
        for (Rule rule : inOrder) {
            int number = switch (rule.kind) {
                case 'D' -> object.differ(rule.x, rule.y, rule.number);
                case 'E' -> object.exceed(rule.x, rule.y, rule.number);
                case 'T' -> object.total(rule.x, rule.y, rule.z, rule.number);
                default -> object.listed(rule.number, rule.x, rule.y, rule.z);
            };
            check.due(name + ": a rule is made", number, made);
            made++;
        }
        return object;
    }

    private void lookAtTheSearch(String what, TrailedDomains object) {
        Set<String> found = new TreeSet<>();
        check.due(what + ": search()", object.search(), true);
        int answer = object.advance(20);
        for (int advances = 1; answer > 0 && advances < MOST_ADVANCES; advances++) {
            if (answer == 2) {
                check.due(what + ": the choice is new", found.add(choiceOf(object)), true);
            }
            answer = object.advance(20);
        }
        check.due(what + ": the search ends", answer, 0);
        check.due(what + ": found()", object.found(), choices.size());
        check.due(what + ": " + found + " are the choices " + choices, found.equals(choices), true);
    }

    private String choiceOf(TrailedDomains object) {
        int[] values = new int[domains.length];
        for (int x = 0; x < values.length; x++) {
            int domain = object.domain(x);
            check.due(name + ": a solution has one value for " + x, Integer.bitCount(domain), 1);
            values[x] = Integer.numberOfTrailingZeros(domain);
        }
        return Arrays.toString(values);
    }
}
