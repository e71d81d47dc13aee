import java.util.ArrayList;
import java.util.List;

/**
 * Asks calls that are to be refused. 'A call whose answer is false or -1 changes nothing': of two
 * objects with the same past only one is asked, and then no call may tell the two apart.
 */
final class Refusals {
    /** What has happened to an object before. */
    interface Story {
        void tell(TrailedDomains object);
    }

    /** One call and its answer. */
    interface Call {
        int ask(TrailedDomains object);
    }

    /** Calls after the refused one, and their answers; with the story at most 512, as the document says. */
    private interface Aftermath {
        void tell(TrailedDomains object, List<Integer> answers);
    }

    private static final int LEVELS = 10;
    private static final List<Aftermath> AFTERMATHS = aftermaths();

    private final Check check;

    Refusals(Check check) {
        this.check = check;
    }

    /** A boolean answer among the numbers: false is the one of a refused call. */
    static int number(boolean answer) {
        return answer ? 1 : -1;
    }

    static TrailedDomains after(Story story) {
        TrailedDomains object = new TrailedDomains();
        story.tell(object);
        return object;
    }

    void taken(String what, Story story, Call call, int due) {
        check.due(what, call.ask(after(story)), due);
    }

    void refused(String what, Story story, Call call) {
        for (int i = 0; i < AFTERMATHS.size(); i++) {
            TrailedDomains asked = after(story);
            check.due(what, call.ask(asked), -1);
            List<Integer> answersOfAsked = new ArrayList<>();
            AFTERMATHS.get(i).tell(asked, answersOfAsked);
            List<Integer> answersOfOther = new ArrayList<>();
            AFTERMATHS.get(i).tell(after(story), answersOfOther);
            check.due(what + " changes nothing (aftermath " + i + ")", answersOfAsked.equals(answersOfOther), true);
        }
    }

    /** What neither a level nor a search makes right is refused above a level and in a search too. */
    void refusedAlways(String what, Story story, Call call) {
        Story levelled = o -> Worlds.level(o, story);
        refused(what, story, call);
        refused(what + " above a level", levelled, call);
        refused(what + " before the root", o -> Worlds.search(o, story, 0), call);
        refused(what + " in a search above a level", o -> Worlds.search(o, levelled, 2), call);
    }

    /** 'when a search is under way': at every moment of one, but neither before it nor after it. */
    void refusedInASearch(String what, Story before, Call call, int due) {
        Story levelled = o -> Worlds.level(o, before);
        taken(what + " before a search", before, call, due);
        for (int visits = 0; visits <= Worlds.VISITS; visits++) {
            int made = visits;
            refused(what + " after " + made + " visits", o -> Worlds.search(o, before, made), call);
            refused(what + " after " + made + " visits, a level", o -> Worlds.search(o, levelled, made), call);
        }
        refused(what + " after the root failed", o -> Worlds.failAtTheRoot(o, before), call);
        taken(what + " after a search was stopped", o -> Worlds.stopASearch(o, before), call, due);
        taken(what + " after a search ended", o -> Worlds.endASearch(o, before), call, due);
    }

    /** 'there is a level': one, some or ten, but not when the last is taken away. */
    void refusedAboveALevel(String what, Story before, Call call, int due) {
        taken(what + " before a level", before, call, due);
        for (int levels = 1; levels <= LEVELS; levels++) {
            int made = levels;
            refused(what + " above " + made + " levels", o -> Worlds.pushAndPop(o, before, made, 0), call);
            refused(what + " above one level left of " + made, o -> Worlds.pushAndPop(o, before, made, made - 1), call);
            taken(what + " when no level is left", o -> Worlds.pushAndPop(o, before, made, made), call, due);
        }
    }

    private static List<Aftermath> aftermaths() {
        List<Aftermath> all = new ArrayList<>();
        all.add(Refusals::look);
        all.add(Refusals::goOn);
        all.add(Refusals::goBack);
        all.add(Refusals::goBackAtOnce);
        all.add(Refusals::searchAnew);
        for (int r = 0; r < 4; r++) {
            int list = r;
            all.add((object, answers) -> fillUp(object, list, answers));
        }
        for (int k = 0; k < 16; k++) {
            int rule = k;
            all.add((object, answers) -> countSupports(object, rule, answers));
        }
        return all;
    }

    private static void look(TrailedDomains object, List<Integer> answers) {
        for (int x = 0; x < 8; x++) {
            answers.add(object.domain(x));
        }
        answers.add(object.rules());
        answers.add(object.depth());
        answers.add(object.visits());
        answers.add(object.fails());
        answers.add(object.found());
    }

    private static void goOn(TrailedDomains object, List<Integer> answers) {
        for (int i = 0; i < 25; i++) {
            answers.add(object.advance(1));
            look(object, answers);
        }
    }

    /**
     * A refused call in an aftermath could do to both objects what it did to one. So there are two ways
     * back: this one makes no stop() and no pop() that is refused, the other no push() and no depth().
     */
    private static void goBack(TrailedDomains object, List<Integer> answers) {
        endTheSearch(object);
        for (int level = countLevels(object); level > 0; level--) {
            answers.add(object.pop());
            look(object, answers);
        }
        answers.add(object.close());
        look(object, answers);
    }

    private static void goBackAtOnce(TrailedDomains object, List<Integer> answers) {
        object.stop();
        for (int level = LEVELS; level >= 0; level--) {
            answers.add(object.pop());
            answers.add(object.rules());
            for (int x = 0; x < 8; x++) {
                answers.add(object.domain(x));
            }
        }
    }

    private static void searchAnew(TrailedDomains object, List<Integer> answers) {
        endTheSearch(object);
        answers.add(number(object.search()));
        goOn(object, answers);
    }

    private static void endTheSearch(TrailedDomains object) {
        if (object.depth() >= 0) {
            object.stop();
        }
    }

    private static int countLevels(TrailedDomains object) {
        int levels = object.push();
        if (levels < 0) {
            return LEVELS;
        }
        object.pop();
        return levels - 1;
    }

    private static void fillUp(TrailedDomains object, int r, List<Integer> answers) {
        endTheSearch(object);
        for (int level = countLevels(object); level > 0; level--) {
            object.pop();
        }
        for (int e = 0; e <= 12; e++) {
            answers.add(number(object.entry(r, e, e, e)));
        }
        for (int x = 0; x <= 8; x++) {
            answers.add(object.variable(65535));
        }
        int k = object.listed(r, 0, 1, 2);
        for (int v = 0; v < 16; v++) {
            answers.add(object.supports(k, 0, v));
            answers.add(object.supports(k, 1, v));
            answers.add(object.supports(k, 2, v));
        }
        for (int rule = 0; rule <= 16; rule++) {
            answers.add(object.differ(0, 1, 0));
        }
        for (int level = 0; level <= LEVELS; level++) {
            answers.add(object.push());
        }
    }

    private static void countSupports(TrailedDomains object, int k, List<Integer> answers) {
        for (int x = 0; x < 8; x++) {
            for (int v = 0; v < 16; v++) {
                answers.add(object.supports(k, x, v));
            }
        }
    }
}
