/** Promises 11 to 15: JUDGES, who may judge, deciding, DELAYS, DAYS and PAY. */
public final class JudgesTest {
    private static final Check CHECK = new Check();

    public static void main(String[] args) {
        promise11Judge();
        promise12May();
        promise12Family();
        promise13JudgeOf();
        promise14Decide();
        promise14Third();
        promise14Family();
        promise14Delay();
        promise14NothingChangesWhenRefused();
        promise15Days();
        promise15Pay();
        promise15Years();
        promise15Shares();
        promise15AsItIsThen();
        CHECK.end("JudgesTest");
    }

    private static void due(String what, long got, long want) {
        CHECK.due(what, got, want);
    }

    /** HAND 0 of SHOP 0, and judges of SHOP 1 from HAND 1 on. */
    private static IdeaWorks withJudges(int many) {
        IdeaWorks x = new IdeaWorks();
        x.hand(0);
        for (int h = 1; h <= many; h++) {
            x.hand(1);
            x.judge(h, true);
        }
        return x;
    }

    private static void promise11Judge() {
        IdeaWorks x = withJudges(0);
        due("11: not, it was so", x.judge(0, false), 0);
        due("11: judges", x.judge(0, true), 1);
        due("11: it was so", x.judge(0, true), 0);
        due("11: not any more", x.judge(0, false), 1);
        due("11: below", x.judge(-1, true), -1);
        due("11: above", x.judge(1, true), -1);
    }

    private static void promise12May() {
        IdeaWorks x = withJudges(3);
        x.hand(0);
        x.idea(0, 0, 1, 0);
        due("12: may", x.may(1, 0), 1);
        due("12: judges nothing", x.may(4, 0), 0);
        x.judge(4, true);
        due("12: works in the shop", x.may(4, 0), 0);
        x.judge(1, false);
        due("12: not any more", x.may(1, 0), 0);
        x.judge(1, true);
        x.kin(0, 1, true);
        due("12: kin", x.may(1, 0), 0);
        x.team(0, 2);
        due("12: in the team", x.may(2, 0), 0);
        due("12: neither", x.may(3, 0), 1);
        x.kin(3, 2, true);
        due("12: kin of the team", x.may(3, 0), 0);
        x.kin(2, 3, false);
        due("12: kin no more", x.may(3, 0), 1);
        x.idea(3, 2, 1, 0);
        due("12: its own", x.may(3, 1), 0);
        due("12: another's", x.may(2, 1), 1);
        due("12: no hand", x.may(5, 0), -1);
        due("12: hand below", x.may(-1, 0), -1);
        due("12: no idea", x.may(0, 2), -1);
        due("12: idea below", x.may(0, -1), -1);
    }

    private static void promise12Family() {
        IdeaWorks x = withJudges(4);
        x.idea(0, 0, 3, 0);
        x.idea(1, 0, 3, 0);
        x.team(1, 2);
        x.kin(2, 3, true);
        due("12: told it too", x.may(1, 0), 0);
        due("12: in a team of the family", x.may(2, 0), 0);
        due("12: kin of one of the family's team", x.may(3, 0), 0);
        due("12: a stranger", x.may(4, 0), 1);
        x.set(0, 40);
        due("12: families apart", x.may(1, 0), 1);
        due("12: families apart", x.may(3, 0), 1);
        due("12: still kin of its own", x.may(3, 1), 0);
    }

    private static void promise13JudgeOf() {
        IdeaWorks x = withJudges(1);
        x.idea(0, 0, 3, 0);
        due("13: one is not enough", x.judgeOf(0, 0), -9);
        due("13: one is not enough", x.judgeOf(0, 1), -9);
        x.hand(2);
        x.hand(2);
        x.judge(3, true);
        due("13: the least number", x.judgeOf(0, 0), 1);
        due("13: the next", x.judgeOf(0, 1), 3);
        x.judge(2, true);
        due("13: the next", x.judgeOf(0, 1), 2);
        x.decide(0, false, false, false);
        due("13: named least often, of a decided idea", x.judgeOf(0, 0), 3);
        due("13: then the least number", x.judgeOf(0, 1), 1);
        due("13: looking does not name", x.judgeOf(0, 0), 3);
        due("13: i 2", x.judgeOf(0, 2), -1);
        due("13: i -1", x.judgeOf(0, -1), -1);
        due("13: no idea", x.judgeOf(1, 0), -1);
        due("13: idea below", x.judgeOf(-1, 0), -1);
        x.judge(1, false);
        x.judge(1, true);
        due("13: how often they were named is kept", x.judgeOf(0, 0), 3);
        due("13: how often they were named is kept", x.judgeOf(0, 1), 1);
    }

    private static void promise14Decide() {
        IdeaWorks x = withJudges(2);
        for (int i = 0; i < 4; i++) {
            x.idea(0, 0, 1 << i, 0);
        }
        due("14: two yes", x.decide(0, true, true, false), 1);
        due("14: two no", x.decide(1, false, false, true), 2);
        due("14: one of each, no third", x.decide(2, true, false, true), 2);
        due("14: one of each, no third", x.decide(3, false, true, true), 2);
        due("14: taken", x.ideaOf(0, 0), 1);
        due("14: decided on", x.ideaOf(0, 2), 0);
        due("14: not open", x.decide(0, true, true, true), -3);
        due("14: not open", x.decide(1, true, true, true), -3);
        due("14: no idea", x.decide(4, true, true, true), -1);
        due("14: below", x.decide(-1, true, true, true), -1);
        x.idea(0, 0, 16, 0);
        x.judge(2, false);
        due("14: no two", x.decide(4, true, true, true), -3);
        due("14: open still", x.ideaOf(4, 0), 0);
        due("14: not decided", x.ideaOf(4, 2), -9);
        due("14: taken ones", x.count(3), 1);
        due("14: turned down ones", x.count(4), 3);
    }

    private static void promise14Third() {
        IdeaWorks x = withJudges(4);
        for (int i = 0; i < 5; i++) {
            x.idea(0, 0, 1 << i, 0);
        }
        due("14: the third says yes", x.decide(0, true, false, true), 1);
        due("14: four is next, once each for 1, 2, 3", x.judgeOf(1, 0), 4);
        due("14: then one", x.judgeOf(1, 1), 1);
        due("14: the third says no", x.decide(1, false, true, false), 2);
        due("14: now 1 and 2 twice, 3 and 4 once", x.judgeOf(2, 0), 3);
        due("14: now 1 and 2 twice, 3 and 4 once", x.judgeOf(2, 1), 4);
        due("14: two of one mind name no third", x.decide(2, true, true, false), 1);
        due("14: all of them twice", x.judgeOf(3, 0), 1);
        due("14: all of them twice", x.judgeOf(3, 1), 2);
        x.kin(0, 3, true);
        x.kin(0, 4, true);
        due("14: a third must be free to judge", x.decide(3, true, false, true), 2);
        x.kin(0, 3, false);
        due("14: three was not named", x.judgeOf(4, 0), 3);
    }

    private static void promise14Family() {
        IdeaWorks x = withJudges(3);
        x.idea(0, 0, 3, 0);
        x.idea(0, 0, 3, 0);
        x.idea(0, 0, 3, 0);
        x.idea(0, 1, 3, 0);
        due("14: only it is turned down", x.decide(1, false, false, false), 2);
        due("14: others stay open", x.count(4), 1);
        x.days(2);
        due("14: taken", x.decide(2, true, true, false), 1);
        due("14: with it the open one", x.ideaOf(0, 0), 1);
        due("14: on that day", x.ideaOf(0, 2), 2);
        due("14: not the one turned down", x.ideaOf(1, 0), 2);
        due("14: nor its day", x.ideaOf(1, 2), 0);
        due("14: nor another family's", x.ideaOf(3, 0), 0);
        x.idea(0, 0, 3, 0);
        due("14: a later one is open", x.ideaOf(4, 0), 0);
        due("14: a third one's yes takes it", x.decide(4, true, false, true), 1);
    }

    private static void promise14Delay() {
        IdeaWorks x = withJudges(2);
        x.hand(0);
        x.idea(0, 0, 3, 0);
        x.idea(3, 0, 12, 0);
        x.days(10);
        x.idea(3, 0, 3, 0);
        x.idea(0, 0, 48, 0);
        x.team(0, 3);
        x.days(30);
        x.set(3, 7);
        x.decide(3, false, false, false);
        due("14: just in PATIENCE", x.coins(0, 1), 0);
        x.days(1);
        x.decide(2, true, true, false);
        due("14: 11 days late", x.coins(0, 1), 77);
        due("14: each taken one; not by teams", x.coins(3, 1), 7);
        x.set(2, 0);
        x.set(3, 99);
        x.decide(1, false, false, false);
        due("14: turned down costs, too", x.coins(3, 1), 7 + 41 * 99);
        due("14: not by pay", x.coins(3, 0), 0);
        due("14: in all", x.count(9), 77 + 7 + 41 * 99);
    }

    private static void promise14NothingChangesWhenRefused() {
        IdeaWorks x = withJudges(3);
        x.idea(0, 0, 1, 0);
        x.decide(0, true, true, true);
        x.decide(0, true, false, true);
        due("14: nobody was named", x.judgeOf(0, 0), 3);
        due("14: nobody was named", x.judgeOf(0, 1), 1);
        due("14: refusals -3", x.count(13), 1);
    }

    private static void promise15Days() {
        IdeaWorks x = new IdeaWorks();
        due("15: none", x.days(0), -4);
        due("15: below", x.days(Integer.MIN_VALUE), -4);
        due("15: too many", x.days(3001), -6);
        due("15: far too many", x.days(Integer.MAX_VALUE), -6);
        due("15: pass", x.days(2999), 0);
        due("15: day", x.count(0), 2999);
        due("15: too many in all", x.days(2), -6);
        due("15: far too many in all", x.days(Integer.MAX_VALUE), -6);
        due("15: the last", x.days(1), 0);
        due("15: day", x.count(0), 3000);
        due("15: no more", x.days(1), -6);
    }

    /** One IDEA with a WORTH of 1000 a YEAR, OPEN, and a RULE of half of it for some YEARS. */
    private static IdeaWorks withWorth(int years) {
        IdeaWorks x = withJudges(4);
        x.rule(0, 50, 100000, years);
        x.idea(0, 0, 3, 0);
        x.bench(0, 1, 1000);
        x.measure(0, 0, false, 150);
        x.measure(0, 0, true, 50);
        return x;
    }

    private static void promise15Pay() {
        IdeaWorks x = withWorth(2);
        x.team(0, 1);
        x.team(0, 2);
        x.days(5);
        x.decide(0, true, true, false);
        due("15: the day before", x.days(359), 0);
        due("15: a year", x.days(1), 500);
        due("15: the team", x.coins(1, 0), 166);
        due("15: the team", x.coins(2, 0), 166);
        due("15: what is left over", x.coins(0, 0), 168);
        due("15: by the idea", x.ideaOf(0, 3), 500);
        due("15: in all", x.count(9), 500);
        due("15: once", x.days(359), 0);
        due("15: the second year", x.days(1), 500);
        due("15: two years only", x.days(360), 0);
        due("15: cut each time", x.coins(0, 0), 336);
    }

    private static void promise15Years() {
        IdeaWorks x = withWorth(5);
        x.decide(0, true, true, false);
        due("15: many years at once", x.days(3000), 2500);
        due("15: all by the idea", x.ideaOf(0, 3), 2500);
        due("15: the hand", x.coins(0, 0), 2500);
        IdeaWorks open = withWorth(1);
        due("15: an open one is not paid", open.days(720), 0);
        IdeaWorks down = withWorth(1);
        down.decide(0, false, false, false);
        due("15: nor one turned down", down.days(720), 0);
        IdeaWorks capped = withWorth(1);
        capped.rule(0, 100, 333, 3);
        capped.decide(0, true, true, false);
        due("15: CAP at most, by the rule in force", capped.days(800), 666);
        IdeaWorks late = withJudges(2);
        late.idea(0, 0, 3, 0);
        late.measure(0, 0, false, 90);
        late.measure(0, 0, true, 0);
        late.days(1);
        late.rule(1, 100, 100000, 5);
        late.decide(0, true, true, false);
        due("15: without a rule nothing", late.days(2000), 0);
    }

    private static void promise15Shares() {
        IdeaWorks x = withWorth(3);
        x.idea(1, 0, 3, 1);
        x.idea(2, 0, 3, 0);
        x.decide(0, true, true, false);
        x.bench(0, 1, 1005);
        due("15: three shares, each cut", x.days(360), 301 + 100 + 100);
        due("15: the head", x.coins(1, 0), 301);
        due("15: another", x.coins(0, 0), 100);
        due("15: another", x.coins(2, 0), 100);
        due("15: by the idea", x.ideaOf(1, 3), 301);
    }

    private static void promise15AsItIsThen() {
        IdeaWorks x = withWorth(3);
        x.decide(0, true, true, false);
        due("15: the first year", x.days(360), 500);
        x.harm(0, 400);
        due("15: harm taken off", x.days(360), 300);
        x.idea(1, 0, 3, 9);
        x.set(1, 700);
        due("15: one more told it, and is open", x.days(360), 210);
        due("15: the open one has nothing", x.coins(1, 0), 0);
        due("15: in all", x.ideaOf(0, 3), 1010);
    }
}
