import java.util.ArrayList;
import java.util.List;
import java.util.function.ToIntFunction;

/** Questions that together show the whole state of works that were told a story. */
final class Questions {
    private final List<ToIntFunction<IdeaWorks>> asked = new ArrayList<>();

    private Questions() {
    }

    /** In parts of that many at most: each part is asked of another object, as an object has only so many calls. */
    static List<List<ToIntFunction<IdeaWorks>>> about(Story story, int most) {
        List<List<ToIntFunction<IdeaWorks>>> parts = new ArrayList<>();
        addPart(parts, ofWhatIs(story), most);
        addPart(parts, ofWhatItWas(story), most);
        addPart(parts, ofWhatComes(story), most);
        addPart(parts, ofYearsThatEnd(story), most);
        return parts;
    }

    private static void addPart(List<List<ToIntFunction<IdeaWorks>>> parts, Questions questions, int most) {
        List<ToIntFunction<IdeaWorks>> all = questions.asked;
        for (int from = 0; from < all.size(); from += most) {
            parts.add(all.subList(from, Math.min(all.size(), from + most)));
        }
    }

    private void ask(ToIntFunction<IdeaWorks> question) {
        asked.add(question);
    }

    private void askCounts() {
        for (int what = 0; what <= 9; what++) {
            int w = what;
            ask(x -> x.count(w));
        }
    }

    private void askCoins(Story story) {
        for (int hand = 0; hand < story.hands; hand++) {
            int h = hand;
            ask(x -> x.coins(h, 0));
            ask(x -> x.coins(h, 1));
        }
    }

    private void askIdeas(Story story) {
        for (int idea = 0; idea < story.ideas(); idea++) {
            int i = idea;
            for (int what = 0; what <= 5; what++) {
                int w = what;
                ask(x -> x.ideaOf(i, w));
            }
            ask(x -> x.family(i));
            ask(x -> x.head(i));
            ask(x -> x.share(i));
            ask(x -> x.worth(i));
            ask(x -> x.ruleOf(i));
            ask(x -> x.judgeOf(i, 0));
            ask(x -> x.judgeOf(i, 1));
        }
    }

    /** These change nothing. */
    private static Questions ofWhatIs(Story story) {
        Questions q = new Questions();
        q.askCounts();
        q.askCoins(story);
        q.askIdeas(story);
        for (int bench = 0; bench <= 9; bench++) {
            int b = bench;
            for (int idea = 0; idea < Math.min(5, story.ideas()); idea++) {
                int i = idea;
                q.ask(x -> x.saved(b, i, 0));
                q.ask(x -> x.saved(b, i, 1));
            }
        }
        for (int work = 0; work <= story.works; work++) {
            int w = work;
            q.ask(x -> x.ledBack(w));
        }
        q.ask(x -> x.other(1, 100, 100000));
        q.ask(x -> x.other(40, 100, 100000));
        return q;
    }

    /** Calls that answer what it was. */
    private static Questions ofWhatItWas(Story story) {
        Questions q = new Questions();
        for (int what = 0; what <= 3; what++) {
            int w = what;
            q.ask(x -> x.set(w, 1));
        }
        for (int bench = 0; bench <= 9; bench++) {
            int b = bench;
            q.ask(x -> x.bench(b, 0, 1));
            q.ask(x -> x.bench(b, 1, 1));
        }
        for (int idea = 0; idea < story.ideas(); idea++) {
            int i = idea;
            q.ask(x -> x.harm(i, 1));
        }
        for (int hand = 0; hand < story.hands; hand++) {
            int h = hand;
            q.ask(x -> x.judge(h, true));
            for (int other = 0; other < Math.min(4, h); other++) {
                int o = other;
                q.ask(x -> x.kin(h, o, true));
            }
        }
        for (int idea = 0; idea < Math.min(5, story.ideas()); idea++) {
            int i = idea;
            for (int hand = 0; hand < Math.min(12, story.hands); hand++) {
                int h = hand;
                q.ask(x -> x.team(i, h));
            }
        }
        return q;
    }

    /** What is found, decided and numbered from now on. */
    private static Questions ofWhatComes(Story story) {
        Questions q = new Questions();
        q.ask(x -> x.work(0, 0x3000));
        q.ask(x -> x.work(0, 0x0300));
        for (int idea = 0; idea < story.ideas(); idea++) {
            int i = idea;
            q.ask(x -> x.reopen(i));
            q.ask(x -> x.decide(i, true, false, true));
        }
        q.ask(x -> x.hand(0));
        q.ask(x -> x.idea(0, 0, 3, 0));
        q.ask(x -> x.rule(3000, 1, 1, 1));
        q.ask(x -> x.measure(0, 0, true, 1));
        q.askCounts();
        return q;
    }

    /** What is paid, by whatever RULES there are. */
    private static Questions ofYearsThatEnd(Story story) {
        Questions q = new Questions();
        for (int year = 0; year < 6; year++) {
            q.ask(x -> x.days(180));
            q.ask(x -> x.days(180));
        }
        q.askCoins(story);
        q.askCounts();
        return q;
    }
}
