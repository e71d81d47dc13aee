import java.util.Random;

/** Long runs of calls, most of them sensible and some wrong, answered alike by PlainDomains. */
public final class ModelTest {
    private static final int RUNS = 1500;

    private final Check check;
    private final Random random;
    private final String run;
    private final TrailedDomains program = new TrailedDomains();
    private final PlainDomains model = new PlainDomains();

    /** Few values make deep searches short; many make rules bite. */
    private final int width;

    private ModelTest(Check check, int seed) {
        this.check = check;
        this.random = new Random(seed);
        this.run = "run " + seed + ": ";
        this.width = 2 + random.nextInt(15);
    }

    public static void main(String[] args) {
        Check check = new Check();
        for (int seed = 0; seed < RUNS && check.allRight(); seed++) {
            new ModelTest(check, seed).play();
        }
        check.end();
    }

    private void play() {
        int variables = random.nextInt(9);
        for (int i = 0; i < variables; i++) {
            makeVariable();
        }
        for (int i = random.nextInt(20); i > 0; i--) {
            makeEntry();
        }
        for (int i = random.nextInt(10); i > 0; i--) {
            makeRule();
        }
        int calls = random.nextInt(300);
        for (int i = 0; i < calls && check.allRight(); i++) {
            call();
            look();
        }
    }

    private void call() {
        int choice = random.nextInt(100);
        if (choice < 4) {
            makeVariable();
        } else if (choice < 10) {
            makeEntry();
        } else if (choice < 18) {
            makeRule();
        } else if (choice < 30) {
            int x = index(8);
            int v = number(-1, 16);
            check.due(run + "remove(" + x + ", " + v + ")", program.remove(x, v), model.remove(x, v));
        } else if (choice < 38) {
            check.due(run + "close()", program.close(), model.close());
        } else if (choice < 44) {
            check.due(run + "push()", program.push(), model.push());
        } else if (choice < 50) {
            check.due(run + "pop()", program.pop(), model.pop());
        } else if (choice < 58) {
            check.due(run + "search()", program.search(), model.search());
        } else if (choice < 60) {
            check.due(run + "stop()", program.stop(), model.stop());
        } else if (choice < 85) {
            int n = random.nextInt(4) == 0 ? number(-1, 22) : number(1, 4);
            check.due(run + "advance(" + n + ")", program.advance(n), model.advance(n));
        } else {
            int k = index(program.rules() + 1);
            int x = index(8);
            int v = number(-2, 17);
            check.due(run + "supports(" + k + ", " + x + ", " + v + ")",
                    program.supports(k, x, v), model.supports(k, x, v));
        }
    }

    private void look() {
        for (int x = -1; x < 9; x++) {
            check.due(run + "domain(" + x + ")", program.domain(x), model.domain(x));
        }
        check.due(run + "rules()", program.rules(), model.rules());
        check.due(run + "depth()", program.depth(), model.depth());
        check.due(run + "visits()", program.visits(), model.visits());
        check.due(run + "fails()", program.fails(), model.fails());
        check.due(run + "found()", program.found(), model.found());
    }

    private void makeVariable() {
        int values = random.nextInt(20) == 0 ? number(-1, 70000) : random.nextInt(1 << width);
        check.due(run + "variable(" + values + ")", program.variable(values), model.variable(values));
    }

    private void makeEntry() {
        int r = index(4);
        int a = number(-1, width);
        int b = number(-1, width);
        int c = random.nextInt(20) == 0 ? number(-3, 18) : number(-1, width);
        check.due(run + "entry(" + r + ", " + a + ", " + b + ", " + c + ")",
                program.entry(r, a, b, c), model.entry(r, a, b, c));
    }

    private void makeRule() {
        int x = index(8);
        int y = index(8);
        int z = index(8);
        int c = random.nextInt(20) == 0 ? number(-17, 17) : number(-width / 2, width / 2);
        int s = random.nextInt(20) == 0 ? number(-2, 48) : number(0, 3 * width);
        int r = index(4);
        switch (random.nextInt(4)) {
            case 0:
                check.due(run + "differ(" + x + ", " + y + ", " + c + ")",
                        program.differ(x, y, c), model.differ(x, y, c));
                break;
            case 1:
                check.due(run + "exceed(" + x + ", " + y + ", " + c + ")",
                        program.exceed(x, y, c), model.exceed(x, y, c));
                break;
            case 2:
                check.due(run + "total(" + x + ", " + y + ", " + z + ", " + s + ")",
                        program.total(x, y, z, s), model.total(x, y, z, s));
                break;
            default:
                check.due(run + "listed(" + r + ", " + x + ", " + y + ", " + z + ")",
                        program.listed(r, x, y, z), model.listed(r, x, y, z));
        }
    }

    /** Mostly 0 .. limit - 1, now and then one beside them. */
    private int index(int limit) {
        return random.nextInt(15) == 0 ? number(-1, limit) : random.nextInt(limit);
    }

    private int number(int least, int greatest) {
        return least + random.nextInt(greatest - least + 1);
    }
}
