import java.util.ArrayList;
import java.util.Arrays;
import java.util.List;
import java.util.TreeSet;
import java.util.function.BiPredicate;
import java.util.function.Function;
import java.util.function.ToIntBiFunction;
import java.util.function.ToIntFunction;

/** REFUSALS of every call, with every edge of every argument against every other, in several states. */
public final class RefusalsTest {
    private static final Check CHECK = new Check();
    private static final int MOST_CALLS = 512;
    private static final int LEAST = Scene.LEAST_INT;
    private static final int GREATEST = Scene.GREATEST_INT;

    /** One refusal of a call: its number, and when it fits. */
    private record Refusal(int number, BiPredicate<Story, int[]> fits) {
    }

    /** A call: the edges of its arguments, and its refusals in the order in which the document tells them. */
    private record Call(String name, ToIntBiFunction<IdeaWorks, int[]> ask, Function<Story, int[][]> edges, Refusal... refusals) {
        /** The first that fits, or 0. */
        int due(Story known, int[] a) {
            for (Refusal refusal : refusals) {
                if (refusal.fits.test(known, a)) {
                    return refusal.number;
                }
            }
            return 0;
        }
    }

    private static final List<Call> CALLS = new ArrayList<>();

    public static void main(String[] args) {
        tellCallsOfHandsAndIdeas();
        tellCallsOfJudges();
        tellCallsOfWorth();
        tellCallsOfWorks();
        CHECK.due("calls of the face", CALLS.size(), 28);
        List<Story> stories = List.of(Story.ofNothing(), Story.ofSome(), Story.ofTheLastDay(), Story.ofNoRoom());
        for (Story story : stories) {
            CHECK.sentence("REFUSALS (the call answers the number, the first that fits in the order in which it tells them)");
            for (Call call : CALLS) {
                theFirstThatFits(story, call);
            }
            CHECK.sentence("REFUSALS (.. nothing changes but how many there were)");
            nothingChanges(story);
            noCallThrows(story);
        }
        everyRefusalWasSeen();
        CHECK.end("RefusalsTest");
    }

    private static void call(String name, ToIntBiFunction<IdeaWorks, int[]> ask, Function<Story, int[][]> edges, Refusal... refusals) {
        CALLS.add(new Call(name, ask, edges, refusals));
    }

    private static Refusal refusal(int number, BiPredicate<Story, int[]> fits) {
        return new Refusal(number, fits);
    }

    private static int[][] all(int[]... edges) {
        return edges;
    }

    // The edges of each kind of argument: the least and the greatest int, one below, the least, .. the greatest, one above.

    private static int[] numbers(int many) {
        TreeSet<Integer> found = new TreeSet<>(List.of(LEAST, -1, 0, 1, 2, 3, 4, many - 1, many, 64, GREATEST));
        return found.stream().mapToInt(n -> n).toArray();
    }

    private static int[] range(int least, int greatest) {
        TreeSet<Integer> found = new TreeSet<>(List.of(LEAST, least - 1, least, greatest, greatest + 1, GREATEST));
        return found.stream().mapToInt(n -> n).toArray();
    }

    private static int[] join(int[] some, int... more) {
        TreeSet<Integer> found = new TreeSet<>();
        Arrays.stream(some).forEach(found::add);
        Arrays.stream(more).forEach(found::add);
        return found.stream().mapToInt(n -> n).toArray();
    }

    private static int[] hands(Story k) {
        return numbers(k.hands);
    }

    private static int[] ideas(Story k) {
        return numbers(k.ideas());
    }

    private static int[] shops() {
        return range(0, 7);
    }

    private static int[] marks() {
        return join(range(1, 65535), -1);
    }

    private static int[] benches() {
        return join(range(0, 9), 3, 5);
    }

    private static int[] yesOrNo() {
        return new int[] {0, 1};
    }

    private static boolean isNo(int number, int many) {
        return number < 0 || number >= many;
    }

    private static boolean noHand(Story k, int hand) {
        return isNo(hand, k.hands);
    }

    private static boolean noIdea(Story k, int idea) {
        return isNo(idea, k.ideas());
    }

    private static boolean noShop(int shop) {
        return isNo(shop, 8);
    }

    private static boolean noMarks(int marks) {
        return marks == 0 || (marks & ~0xFFFF) != 0;
    }

    private static boolean noBench(int bench) {
        return isNo(bench, 10);
    }

    private static boolean yes(int v) {
        return v == 1;
    }

    private static void tellCallsOfHandsAndIdeas() {
        call("hand", (x, a) -> x.hand(a[0]), k -> all(shops()),
                refusal(-1, (k, a) -> noShop(a[0])),
                refusal(-6, (k, a) -> k.hands == 40));
        call("kin", (x, a) -> x.kin(a[0], a[1], yes(a[2])), k -> all(hands(k), hands(k), yesOrNo()),
                refusal(-1, (k, a) -> noHand(k, a[0]) || noHand(k, a[1]) || a[0] == a[1]));
        call("idea", (x, a) -> x.idea(a[0], a[1], a[2], a[3]), k -> all(hands(k), shops(), marks(), range(0, 9)),
                refusal(-1, (k, a) -> noHand(k, a[0]) || noShop(a[1]) || noMarks(a[2])),
                refusal(-4, (k, a) -> a[3] < 0),
                refusal(-6, (k, a) -> a[3] > 9 || k.ideas() == 40));
        call("team", (x, a) -> x.team(a[0], a[1]), k -> all(ideas(k), join(hands(k), 5, 8, 11)),
                refusal(-1, (k, a) -> noIdea(k, a[0]) || noHand(k, a[1])),
                refusal(-3, (k, a) -> k.handOfIdea.get(a[0]) == a[1] || k.team.get(a[0]).contains(a[1])),
                refusal(-6, (k, a) -> k.team.get(a[0]).size() == 6));
        int[] leastSetting = {1, 0, 0, 0};
        int[] greatestSetting = {40, 1000, 100, 99};
        call("set", (x, a) -> x.set(a[0], a[1]),
                k -> all(join(range(0, 3), 1, 2), new int[] {LEAST, -1, 0, 1, 40, 41, 99, 100, 101, 1000, 1001, GREATEST}),
                refusal(-2, (k, a) -> a[0] < 0 || a[0] > 3),
                refusal(-4, (k, a) -> a[1] < leastSetting[a[0]]),
                refusal(-6, (k, a) -> a[1] > greatestSetting[a[0]]));
        call("like", (x, a) -> x.like(a[0], a[1]), k -> all(ideas(k), ideas(k)),
                refusal(-1, (k, a) -> noIdea(k, a[0]) || noIdea(k, a[1])));
        ofAnIdea("family", (x, a) -> x.family(a[0]));
        ofAnIdea("head", (x, a) -> x.head(a[0]));
        ofAnIdea("share", (x, a) -> x.share(a[0]));
    }

    private static void ofAnIdea(String name, ToIntBiFunction<IdeaWorks, int[]> ask) {
        call(name, ask, k -> all(ideas(k)), refusal(-1, (k, a) -> noIdea(k, a[0])));
    }

    private static void tellCallsOfJudges() {
        call("judge", (x, a) -> x.judge(a[0], yes(a[1])), k -> all(hands(k), yesOrNo()),
                refusal(-1, (k, a) -> noHand(k, a[0])));
        call("may", (x, a) -> x.may(a[0], a[1]), k -> all(hands(k), ideas(k)),
                refusal(-1, (k, a) -> noHand(k, a[0]) || noIdea(k, a[1])));
        call("judgeOf", (x, a) -> x.judgeOf(a[0], a[1]), k -> all(ideas(k), range(0, 1)),
                refusal(-1, (k, a) -> noIdea(k, a[0]) || a[1] < 0 || a[1] > 1));
        call("decide", (x, a) -> x.decide(a[0], yes(a[1]), yes(a[2]), yes(a[3])),
                k -> all(ideas(k), yesOrNo(), yesOrNo(), yesOrNo()),
                refusal(-1, (k, a) -> noIdea(k, a[0])),
                refusal(-3, (k, a) -> k.state.get(a[0]) != Story.OPEN || k.withoutJudges.contains(a[0])));
        call("days", (x, a) -> x.days(a[0]), k -> all(join(range(1, 3000 - k.day), 3000, 3001)),
                refusal(-4, (k, a) -> a[0] < 1),
                refusal(-6, (k, a) -> (long) k.day + a[0] > 3000));
    }

    private static void tellCallsOfWorth() {
        call("bench", (x, a) -> x.bench(a[0], a[1], a[2]), k -> all(benches(), range(0, 1), join(range(0, 10000), 7, 8)),
                refusal(-1, (k, a) -> noBench(a[0]) || a[1] == 0 && noShop(a[2])),
                refusal(-2, (k, a) -> a[1] < 0 || a[1] > 1),
                refusal(-4, (k, a) -> a[2] < 0),
                refusal(-6, (k, a) -> a[2] > 10000));
        call("measure", (x, a) -> x.measure(a[0], a[1], yes(a[2]), a[3]), k -> all(benches(), ideas(k), yesOrNo(), range(0, 9999)),
                refusal(-1, (k, a) -> noBench(a[0]) || noIdea(k, a[1])),
                refusal(-3, (k, a) -> k.shopOfBench[a[0]] != k.shopOfIdea.get(a[1])),
                refusal(-4, (k, a) -> a[3] < 0),
                refusal(-6, (k, a) -> a[3] > 9999 || k.measures == 200));
        call("saved", (x, a) -> x.saved(a[0], a[1], a[2]), k -> all(benches(), ideas(k), range(0, 1)),
                refusal(-1, (k, a) -> noBench(a[0]) || noIdea(k, a[1])),
                refusal(-2, (k, a) -> a[2] < 0 || a[2] > 1));
        call("harm", (x, a) -> x.harm(a[0], a[1]), k -> all(ideas(k), range(0, 100000)),
                refusal(-1, (k, a) -> noIdea(k, a[0])),
                refusal(-4, (k, a) -> a[1] < 0),
                refusal(-6, (k, a) -> a[1] > 100000));
        ofAnIdea("worth", (x, a) -> x.worth(a[0]));
        call("rule", (x, a) -> x.rule(a[0], a[1], a[2], a[3]),
                k -> all(join(range(k.day, 3000), k.day + 1), range(0, 100), range(0, 100000), range(1, 5)),
                refusal(-4, (k, a) -> a[0] < k.day || a[1] < 0 || a[2] < 0 || a[3] < 1),
                refusal(-6, (k, a) -> a[0] > 3000 || a[1] > 100 || a[2] > 100000 || a[3] > 5 || k.rules == 20));
        ofAnIdea("ruleOf", (x, a) -> x.ruleOf(a[0]));
    }

    private static void tellCallsOfWorks() {
        call("work", (x, a) -> x.work(a[0], a[1]), k -> all(shops(), marks()),
                refusal(-1, (k, a) -> noShop(a[0]) || noMarks(a[1])),
                refusal(-6, (k, a) -> k.works == 20));
        call("ledBack", (x, a) -> x.ledBack(a[0]), k -> all(numbers(k.works)));
        call("reopen", (x, a) -> x.reopen(a[0]), k -> all(ideas(k)),
                refusal(-1, (k, a) -> noIdea(k, a[0])),
                refusal(-3, (k, a) -> k.state.get(a[0]) != Story.TURNED_DOWN || !k.ledBack.contains(a[0])));
        call("other", (x, a) -> x.other(a[0], a[1], a[2]), k -> all(range(1, 40), range(0, 100), range(0, 100000)),
                refusal(-4, (k, a) -> a[0] < 1 || a[1] < 0 || a[2] < 0),
                refusal(-6, (k, a) -> a[0] > 40 || a[1] > 100 || a[2] > 100000));
        call("coins", (x, a) -> x.coins(a[0], a[1]), k -> all(hands(k), range(0, 1)),
                refusal(-1, (k, a) -> noHand(k, a[0])),
                refusal(-2, (k, a) -> a[1] < 0 || a[1] > 1));
        call("ideaOf", (x, a) -> x.ideaOf(a[0], a[1]), k -> all(ideas(k), range(0, 5)),
                refusal(-1, (k, a) -> noIdea(k, a[0])),
                refusal(-2, (k, a) -> a[1] < 0 || a[1] > 5));
        call("count", (x, a) -> x.count(a[0]), k -> all(join(range(0, 9), range(11, 16))));
    }

    /** Every choice of one edge for each argument. */
    private static List<int[]> choices(int[][] edges) {
        List<int[]> found = new ArrayList<>();
        found.add(new int[edges.length]);
        for (int at = 0; at < edges.length; at++) {
            List<int[]> longer = new ArrayList<>();
            for (int[] begun : found) {
                for (int edge : edges[at]) {
                    int[] next = begun.clone();
                    next[at] = edge;
                    longer.add(next);
                }
            }
            found = longer;
        }
        return found;
    }

    private static final TreeSet<String> SEEN = new TreeSet<>();

    private static void theFirstThatFits(Story story, Call call) {
        IdeaWorks x = story.tell();
        int[] refused = new int[7];
        int room = MOST_CALLS - story.length();
        for (int[] a : choices(call.edges.apply(story))) {
            String told = story.name + ": " + call.name + Arrays.toString(a);
            int due = call.due(story, a);
            int got = call.ask.applyAsInt(x, a);
            if (due != 0) {
                SEEN.add(call.name + due);
                refused[-due]++;
                CHECK.due(told, got, due);
            } else if (!call.name.equals("count")) {
                CHECK.due(told + " is refused", got < 0 && got != -9 ? 1 : 0, 0);
            }
            for (int number = 1; number <= 6; number++) {
                CHECK.due(told + ", then REFUSALS -" + number, x.count(10 + number), refused[number]);
            }
            room -= 7;
            if (due == 0 || room < 7) {
                x = story.tell();
                refused = new int[7];
                room = MOST_CALLS - story.length();
            }
        }
    }

    /** Each refusal of the table must have been met, or the edges show nothing of it. */
    private static void everyRefusalWasSeen() {
        CHECK.sentence("this test");
        for (Call call : CALLS) {
            for (Refusal refusal : call.refusals) {
                CHECK.due(call.name + " was refused by " + refusal.number, SEEN.contains(call.name + refusal.number) ? 1 : 0, 1);
            }
        }
    }

    private static void nothingChanges(Story story) {
        List<List<ToIntFunction<IdeaWorks>>> questions = Questions.about(story, MOST_CALLS - story.length() - 1);
        List<int[]> before = new ArrayList<>();
        for (List<ToIntFunction<IdeaWorks>> some : questions) {
            before.add(answers(story.tell(), some));
        }
        for (Call call : CALLS) {
            for (int[] a : thinned(call, story)) {
                for (int part = 0; part < before.size(); part++) {
                    IdeaWorks x = story.tell();
                    call.ask.applyAsInt(x, a);
                    boolean same = Arrays.equals(answers(x, questions.get(part)), before.get(part));
                    CHECK.due(story.name + ": " + call.name + Arrays.toString(a) + " changes nothing", same ? 1 : 0, 1);
                }
            }
        }
    }

    /** LANGUAGE.md 7: far more calls than an object is used for, in any state; a call that throws ends the test. */
    private static void noCallThrows(Story story) {
        CHECK.sentence("No call may ever throw or fail to end, for any arguments in any state");
        IdeaWorks x = story.tell();
        int told = 0;
        for (int round = 0; round < 3; round++) {
            for (Call call : CALLS) {
                for (int[] a : choices(call.edges.apply(story))) {
                    call.ask.applyAsInt(x, a);
                    told++;
                }
            }
        }
        CHECK.due(story.name + ": thousands of calls", told > 5000 ? 1 : 0, 1);
    }

    /** Of the refused choices all, or some sixty and more from all over: each is asked about by hundreds of calls. */
    private static List<int[]> thinned(Call call, Story story) {
        List<int[]> refused = new ArrayList<>();
        for (int[] a : choices(call.edges.apply(story))) {
            if (call.due(story, a) != 0) {
                refused.add(a);
            }
        }
        int step = Math.max(1, refused.size() / 60);
        List<int[]> some = new ArrayList<>();
        for (int at = 0; at < refused.size(); at += step) {
            some.add(refused.get(at));
        }
        return some;
    }

    private static int[] answers(IdeaWorks x, List<ToIntFunction<IdeaWorks>> questions) {
        int[] found = new int[questions.size()];
        for (int q = 0; q < found.length; q++) {
            found[q] = questions.get(q).applyAsInt(x);
        }
        return found;
    }
}
