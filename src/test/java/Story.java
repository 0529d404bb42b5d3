import java.util.ArrayList;
import java.util.HashSet;
import java.util.List;
import java.util.Set;
import java.util.function.ToIntFunction;

/** Calls that can be told to any number of new objects, and what is known of works that were told them. */
final class Story {
    static final int OPEN = 0;
    static final int TAKEN = 1;
    static final int TURNED_DOWN = 2;

    final String name;
    final List<Integer> shopOfIdea = new ArrayList<>();
    final List<Integer> handOfIdea = new ArrayList<>();
    final List<Integer> state = new ArrayList<>();
    final List<Set<Integer>> team = new ArrayList<>();
    /** IDEAS for which there are no two JUDGES, and those that were LED BACK. */
    final Set<Integer> withoutJudges = new HashSet<>();
    final Set<Integer> ledBack = new HashSet<>();
    final int[] shopOfBench = new int[10];
    int hands = 0;
    int day = 0;
    int measures = 0;
    int rules = 0;
    int works = 0;
    private final List<ToIntFunction<IdeaWorks>> steps = new ArrayList<>();

    Story(String name) {
        this.name = name;
    }

    int ideas() {
        return state.size();
    }

    int length() {
        return steps.size();
    }

    /** A new object that was told the story; no call of it may be refused, or the story is not what is known. */
    IdeaWorks tell() {
        IdeaWorks x = new IdeaWorks();
        for (ToIntFunction<IdeaWorks> step : steps) {
            int answer = step.applyAsInt(x);
            if (answer < 0 && answer != -9) {
                throw new IllegalStateException("the story '" + name + "' is refused by " + answer);
            }
        }
        return x;
    }

    Story hand(int shop) {
        steps.add(x -> x.hand(shop));
        hands++;
        return this;
    }

    Story judge(int hand) {
        steps.add(x -> x.judge(hand, true));
        return this;
    }

    Story kin(int a, int b) {
        steps.add(x -> x.kin(a, b, true));
        return this;
    }

    Story idea(int hand, int shop, int marks, int fields) {
        steps.add(x -> x.idea(hand, shop, marks, fields));
        handOfIdea.add(hand);
        shopOfIdea.add(shop);
        state.add(OPEN);
        team.add(new HashSet<>());
        return this;
    }

    Story team(int idea, int hand) {
        steps.add(x -> x.team(idea, hand));
        team.get(idea).add(hand);
        return this;
    }

    Story decide(int idea, boolean yes) {
        steps.add(x -> x.decide(idea, yes, yes, yes));
        state.set(idea, yes ? TAKEN : TURNED_DOWN);
        return this;
    }

    Story withoutJudges(int idea) {
        withoutJudges.add(idea);
        return this;
    }

    Story days(int n) {
        steps.add(x -> x.days(n));
        day += n;
        return this;
    }

    Story bench(int bench, int shop) {
        steps.add(x -> x.bench(bench, 0, shop));
        shopOfBench[bench] = shop;
        return this;
    }

    Story measure(int bench, int idea, boolean after, int cost) {
        steps.add(x -> x.measure(bench, idea, after, cost));
        measures++;
        return this;
    }

    Story harm(int idea, int coins) {
        steps.add(x -> x.harm(idea, coins));
        return this;
    }

    Story rule(int day, int parts, int cap, int years) {
        steps.add(x -> x.rule(day, parts, cap, years));
        rules++;
        return this;
    }

    /** A WORK that leads back this IDEA, or none if it is -9. */
    Story work(int shop, int marks, int found) {
        steps.add(x -> {
            int answer = x.work(shop, marks);
            return answer == found ? 0 : -1;
        });
        works++;
        if (found >= 0) {
            ledBack.add(found);
        }
        return this;
    }

    /** Nothing was told. */
    static Story ofNothing() {
        return new Story("nothing");
    }

    /** Some of everything: IDEAS OPEN (0), TAKEN (1), LED BACK (2), TURNED DOWN (3), OPEN without JUDGES (4). */
    static Story ofSome() {
        Story s = new Story("some");
        s.hand(0).hand(0).hand(1).hand(2).hand(3).hand(1);
        s.judge(2).judge(3).judge(4).kin(0, 5).kin(3, 1);
        s.rule(0, 50, 100, 2).days(5).rule(5, 60, 1000, 3).rule(40, 70, 10, 1);
        s.idea(0, 0, 0x0003, 3).idea(5, 0, 0x0030, 4).idea(0, 0, 0x0300, 5).idea(5, 0, 0x3000, 6).idea(0, 2, 0x0003, 7);
        s.team(0, 1).team(0, 5).team(4, 2).withoutJudges(4);
        s.bench(3, 1).bench(5, 2);
        s.measure(0, 0, false, 90).measure(0, 0, true, 30).measure(1, 1, false, 60).measure(1, 1, true, 10);
        s.measure(5, 4, false, 9).harm(1, 7).harm(4, 8);
        s.days(36).decide(1, true).decide(2, false).decide(3, false);
        s.work(0, 0x0300, 2).work(4, 0x0001, -9);
        return s;
    }

    /** Some of everything, on the last DAY. */
    static Story ofTheLastDay() {
        Story s = ofSome();
        return s.days(3000 - s.day);
    }

    /** No room for one more of anything, but for DAYS. */
    static Story ofNoRoom() {
        Story s = new Story("no room");
        for (int h = 0; h < 40; h++) {
            s.hand(h % 8);
        }
        s.judge(1).judge(2).judge(39).kin(9, 10);
        for (int r = 0; r < 20; r++) {
            s.rule(r / 2, 5 * r, 100 * r, 1 + r % 5);
        }
        for (int i = 0; i < 40; i++) {
            s.idea(i == 4 ? 1 : 8, 0, 1 << i % 16, i % 10);
        }
        for (int h = 3; h < 9; h++) {
            s.team(0, h == 8 ? 11 : h);
        }
        s.team(4, 2).withoutJudges(4);
        for (int m = 0; m < 200; m++) {
            s.measure(m % 10, m % 5, m % 20 < 10, m % 20 < 10 ? m : 300 + m);
        }
        s.days(3).decide(1, true).decide(2, false).decide(3, false);
        for (int w = 0; w < 20; w++) {
            s.work(1, 1 << w % 16, -9);
        }
        return s;
    }
}
