import java.util.Random;

/** Long runs of calls with ordinary, edge and wild arguments: each answer is the one of PlainModel. */
public final class ModelTest {
    private static final int RUNS = 800;
    private static final int CALLS = 512;
    private static final int[] WILD = {Integer.MIN_VALUE, -1000, -2, -1, 0, 1, 40, 41, 65535, 65536, 100001, Integer.MAX_VALUE};
    private static final String[] NAMES = {"hand", "kin", "idea", "team", "set", "like", "family", "head", "share",
        "judge", "may", "judgeOf", "decide", "days", "bench", "measure", "saved", "harm", "worth", "rule", "ruleOf",
        "work", "ledBack", "reopen", "other", "coins", "ideaOf", "count"};
    /** How often each call comes, in the order of NAMES. */
    private static final int[] OFTEN = {3, 3, 12, 5, 3, 2, 2, 2, 4, 5, 3, 4, 12, 6, 4, 14, 4, 3, 4, 4, 2, 5, 1, 6, 4, 4, 4, 6};

    /** HANDS, judges and a RULE come first, or hardly an IDEA would ever be TAKEN and PAID. */
    private static final int[] OPENING = {0, 0, 0, 0, 0, 0, 0, 0, 0, 0, 0, 0, 0, 0, 9, 9, 9, 9, 9, 9, 9, 9, 9, 19, 19, 19};

    private final Random random;
    private final int spread;
    private final int dayMost;
    private int hands = 0;
    private int ideas = 0;
    private int day = 0;

    private ModelTest(int seed) {
        random = new Random(seed);
        spread = 1 + random.nextInt(4);
        dayMost = random.nextBoolean() ? 20 : 200;
    }

    public static void main(String[] args) {
        Check check = new Check();
        int[] paidRuns = new int[1];
        for (int seed = 0; seed < RUNS; seed++) {
            new ModelTest(seed).run(seed, check, paidRuns);
        }
        // Runs that never pay would show nothing of PAY.
        check.due("many runs pay", paidRuns[0] > RUNS / 4 ? 1 : 0, 1);
        System.out.println(paidRuns[0] + " of " + RUNS + " runs pay");
        check.end("ModelTest");
    }

    private void run(int seed, Check check, int[] paidRuns) {
        IdeaWorks x = new IdeaWorks();
        PlainModel model = new PlainModel();
        boolean paid = false;
        boolean comparing = seed % 2 == 1;
        for (int n = 0; n < CALLS - (comparing ? callsToCompare() : 0); n++) {
            int call = n < OPENING.length ? OPENING[n] : pickCall();
            int[] a = arguments(call);
            int want = model.answer(call, a[0], a[1], a[2], a[3]);
            String told = "run " + seed + " call " + n + ": " + NAMES[call] + java.util.Arrays.toString(a);
            check.due(told, ask(x, call, a), want);
            if (want >= 0 && call == 0) {
                hands++;
            } else if (want >= 0 && call == 2) {
                ideas++;
            } else if (want >= 0 && call == 13) {
                day += a[0];
                paid |= want > 0;
            }
        }
        if (comparing) {
            compareAll(seed, x, model, check);
        }
        paidRuns[0] += paid ? 1 : 0;
    }

    /** An object has 512 calls: a run that is compared in the end must leave as many; the next call may be an IDEA. */
    private int callsToCompare() {
        return 6 * (ideas + 1) + 2 * hands + 19;
    }

    private void compareAll(int seed, IdeaWorks x, PlainModel model, Check check) {
        for (int i = 0; i < ideas; i++) {
            for (int what = 0; what < 6; what++) {
                check.due("run " + seed + " ideaOf " + i + " " + what, x.ideaOf(i, what), model.answer(26, i, what, 0, 0));
            }
        }
        for (int h = 0; h < hands; h++) {
            check.due("run " + seed + " by pay " + h, x.coins(h, 0), model.answer(25, h, 0, 0, 0));
            check.due("run " + seed + " by delays " + h, x.coins(h, 1), model.answer(25, h, 1, 0, 0));
        }
        for (int what = -1; what < 18; what++) {
            check.due("run " + seed + " count " + what, x.count(what), model.answer(27, what, 0, 0, 0));
        }
    }

    private int pickCall() {
        int all = 0;
        for (int often : OFTEN) {
            all += often;
        }
        int at = random.nextInt(all);
        for (int call = 0; call < OFTEN.length; call++) {
            at -= OFTEN[call];
            if (at < 0) {
                return call;
            }
        }
        return OFTEN.length - 1;
    }

    private int[] arguments(int call) {
        int[] a = ordinary(call);
        if (random.nextInt(25) == 0) {
            a[random.nextInt(4)] = WILD[random.nextInt(WILD.length)];
        }
        return a;
    }

    private int below(int bound) {
        return random.nextInt(Math.max(1, bound));
    }

    private int marks() {
        int seven = 1 + below(127);
        return random.nextInt(3) == 0 ? seven << 3 * below(4) & 0xFFFF : 7 << 2 * below(4);
    }

    private int[] ordinary(int call) {
        int someHand = below(hands + (below(30) == 0 ? 1 : 0));
        int someIdea = below(ideas + (below(30) == 0 ? 1 : 0));
        int bit = below(2);
        return switch (call) {
            case 0 -> new int[] {below(8), 0, 0, 0};
            case 1 -> new int[] {someHand, below(hands), below(5) == 0 ? 1 : 0, 0};
            case 2 -> new int[] {below(3) == 0 ? someHand : below(4), below(spread), marks(), below(11) - below(2)};
            case 3 -> new int[] {someIdea, below(3) == 0 ? below(hands) : below(9), 0, 0};
            case 4 -> setting();
            case 5 -> new int[] {someIdea, below(ideas), 0, 0};
            case 9 -> new int[] {someHand, below(4) == 0 ? 0 : 1, 0, 0};
            case 10 -> new int[] {someHand, someIdea, 0, 0};
            case 11 -> new int[] {someIdea, below(2), 0, 0};
            case 12 -> new int[] {someIdea, bit, below(2), below(2)};
            case 13 -> new int[] {below(5) == 0 ? 360 : 1 + below(dayMost), 0, 0, 0};
            case 14 -> bit == 0 ? new int[] {below(10), 0, below(spread), 0} : new int[] {below(10), 1, below(10100), 0};
            case 15 -> new int[] {below(5), someIdea, bit, bit == 0 ? 500 + below(9600) : below(600)};
            case 16 -> new int[] {below(5), someIdea, below(2), 0};
            case 17 -> new int[] {someIdea, below(below(8) == 0 ? 100100 : 200), 0, 0};
            case 19 -> new int[] {day + (bit == 0 ? 0 : below(50) - below(3)), below(102), below(100100), below(7)};
            case 21 -> new int[] {below(spread), marks(), 0, 0};
            case 22 -> new int[] {below(21), 0, 0, 0};
            case 24 -> new int[] {below(10), below(102), below(below(2) == 0 ? 900 : 100100), 0};
            case 25 -> new int[] {someHand, below(2), 0, 0};
            case 26 -> new int[] {someIdea, below(7), 0, 0};
            case 27 -> new int[] {below(18), 0, 0, 0};
            default -> new int[] {someIdea, 0, 0, 0};
        };
    }

    private int[] setting() {
        int[] most = {12, 1002, 102, 101};
        int what = below(4);
        return new int[] {what, below(most[what]), 0, 0};
    }

    private static int ask(IdeaWorks x, int call, int[] a) {
        return switch (call) {
            case 0 -> x.hand(a[0]);
            case 1 -> x.kin(a[0], a[1], PlainModel.odd(a[2]));
            case 2 -> x.idea(a[0], a[1], a[2], a[3]);
            case 3 -> x.team(a[0], a[1]);
            case 4 -> x.set(a[0], a[1]);
            case 5 -> x.like(a[0], a[1]);
            case 6 -> x.family(a[0]);
            case 7 -> x.head(a[0]);
            case 8 -> x.share(a[0]);
            case 9 -> x.judge(a[0], PlainModel.odd(a[1]));
            case 10 -> x.may(a[0], a[1]);
            case 11 -> x.judgeOf(a[0], a[1]);
            case 12 -> x.decide(a[0], PlainModel.odd(a[1]), PlainModel.odd(a[2]), PlainModel.odd(a[3]));
            case 13 -> x.days(a[0]);
            case 14 -> x.bench(a[0], a[1], a[2]);
            case 15 -> x.measure(a[0], a[1], PlainModel.odd(a[2]), a[3]);
            case 16 -> x.saved(a[0], a[1], a[2]);
            case 17 -> x.harm(a[0], a[1]);
            case 18 -> x.worth(a[0]);
            case 19 -> x.rule(a[0], a[1], a[2], a[3]);
            case 20 -> x.ruleOf(a[0]);
            case 21 -> x.work(a[0], a[1]);
            case 22 -> x.ledBack(a[0]);
            case 23 -> x.reopen(a[0]);
            case 24 -> x.other(a[0], a[1], a[2]);
            case 25 -> x.coins(a[0], a[1]);
            case 26 -> x.ideaOf(a[0], a[1]);
            default -> x.count(a[0]);
        };
    }
}
