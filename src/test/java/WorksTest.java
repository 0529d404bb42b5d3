/** Promises 23 to 29: WORKS, LED BACK, reopening, OTHER RULES, coins, and what there is. */
public final class WorksTest {
    private static final Check CHECK = new Check();

    public static void main(String[] args) {
        promise23Work();
        promise23Order();
        promise23Room();
        promise24LedBack();
        promise25Reopen();
        promise25Paid();
        promise26Other();
        promise26Families();
        promise27Coins();
        promise28IdeaOf();
        promise29Count();
        CHECK.end("WorksTest");
    }

    private static void due(String what, long got, long want) {
        CHECK.due(what, got, want);
    }

    /** HANDS 0 and 1 of SHOP 0, judges 2 and 3 of SHOP 7. */
    private static IdeaWorks withJudges() {
        IdeaWorks x = new IdeaWorks();
        x.hand(0);
        x.hand(0);
        x.hand(7);
        x.hand(7);
        x.judge(2, true);
        x.judge(3, true);
        return x;
    }

    private static void turnDown(IdeaWorks x, int idea) {
        due("turned down", x.decide(idea, false, false, false), 2);
    }

    private static void promise23Work() {
        IdeaWorks x = withJudges();
        x.idea(0, 0, 15, 0);
        due("23: an open one", x.work(0, 15), -9);
        turnDown(x, 0);
        due("23: on the same day", x.work(0, 15), 0);
        due("23: another shop", x.work(1, 15), -9);
        due("23: LIKENESS 4", x.work(0, 0x33), -9);
        due("23: LIKENESS 5", x.work(0, 0x3), 0);
        x.set(0, 5);
        due("23: LIKENESS below LIMIT", x.work(0, 0x3), -9);
        due("23: shop below", x.work(-1, 1), -1);
        due("23: shop above", x.work(8, 1), -1);
        due("23: no marks", x.work(0, 0), -1);
        due("23: other marks", x.work(0, 65536), -1);
        due("23: other marks", x.work(0, -1), -1);
        due("23: works", x.count(8), 6);
        due("23: none is no refusal", x.count(11), 5);
    }

    private static void promise23Order() {
        IdeaWorks x = withJudges();
        x.set(0, 1);
        x.idea(0, 0, 0x1F, 9);
        x.idea(0, 0, 0x0F, 1);
        x.idea(0, 0, 0x0F, 4);
        x.idea(0, 0, 0x0F, 4);
        x.days(1);
        x.idea(0, 0, 0x0F, 9);
        for (int i = 0; i < 5; i++) {
            turnDown(x, i);
        }
        due("23: the greatest, then day, fields, number", x.work(0, 0x0F), 2);
        due("23: the greatest LIKENESS ahead of all", x.work(0, 0x1F), 0);
        x.reopen(2);
        due("23: one that was reopened is not turned down", x.work(0, 0x0F), 3);
        x.reopen(3);
        due("23: the earlier day", x.work(0, 0x0F), 1);
    }

    private static void promise23Room() {
        IdeaWorks x = new IdeaWorks();
        for (int w = 0; w < 20; w++) {
            due("23: none", x.work(0, 1), -9);
        }
        due("23: no room", x.work(0, 1), -6);
        due("23: -1 ahead of -6", x.work(0, 0), -1);
        due("23: works", x.count(8), 20);
    }

    private static void promise24LedBack() {
        IdeaWorks x = withJudges();
        x.idea(0, 0, 3, 0);
        turnDown(x, 0);
        x.work(0, 3);
        x.work(0, 12);
        due("24: found", x.ledBack(0), 0);
        due("24: none", x.ledBack(1), -9);
        due("24: no such work", x.ledBack(2), -9);
        x.work(0, 7);
        due("24: found by a later work", x.ledBack(2), 0);
        due("24: no such work", x.ledBack(3), -9);
        due("24: below", x.ledBack(-1), -9);
        due("24: far above", x.ledBack(Integer.MAX_VALUE), -9);
        x.reopen(0);
        x.set(0, 40);
        due("24: as it was found", x.ledBack(0), 0);
        due("24: no refusals", x.count(11), 0);
    }

    private static void promise25Reopen() {
        IdeaWorks x = withJudges();
        x.set(3, 2);
        x.idea(0, 0, 3, 0);
        x.idea(1, 0, 3, 0);
        x.idea(1, 0, 12, 0);
        due("25: open", x.reopen(0), -3);
        x.days(40);
        turnDown(x, 0);
        due("25: coins as it was turned down", x.coins(0, 1), 20);
        due("25: not led back", x.reopen(0), -3);
        turnDown(x, 2);
        x.work(0, 3);
        x.days(10);
        due("25: not led back", x.reopen(2), -3);
        due("25: delay once more, from when it came", x.reopen(0), 40);
        due("25: coins", x.coins(0, 1), 60);
        due("25: taken", x.ideaOf(0, 0), 1);
        due("25: on that day", x.ideaOf(0, 2), 50);
        due("25: it alone", x.ideaOf(1, 0), 0);
        due("25: taken by now", x.reopen(0), -3);
        due("25: below", x.reopen(-1), -1);
        due("25: above", x.reopen(3), -1);
        due("25: refusals -3", x.count(13), 4);
        due("25: taken ones", x.count(3), 1);
        due("25: turned down ones", x.count(4), 1);
    }

    private static void promise25Paid() {
        IdeaWorks x = withJudges();
        x.rule(0, 100, 100, 1);
        x.idea(0, 0, 3, 0);
        x.measure(0, 0, false, 70);
        x.measure(0, 0, true, 10);
        turnDown(x, 0);
        x.work(0, 3);
        x.days(20);
        due("25: in patience", x.reopen(0), 0);
        due("25: not by the day on which it was turned down", x.days(359), 0);
        due("25: by the day of reopening", x.days(1), 60);
    }

    private static void promise26Other() {
        IdeaWorks x = withJudges();
        due("26: nothing", x.other(1, 100, 100000), 0);
        due("26: limit below", x.other(0, 0, 0), -4);
        due("26: parts below", x.other(1, -1, 0), -4);
        due("26: cap below", x.other(1, 0, -1), -4);
        due("26: limit above", x.other(41, 0, 0), -6);
        due("26: parts above", x.other(1, 101, 0), -6);
        due("26: cap above", x.other(1, 0, 100001), -6);
        due("26: -4 ahead of -6", x.other(41, 101, -1), -4);
        due("26: the greatest", x.other(40, 100, 100000), 0);
    }

    private static void promise26Families() {
        IdeaWorks x = withJudges();
        x.idea(0, 0, 3, 0);
        x.idea(1, 0, 7, 0);
        x.idea(1, 1, 3, 0);
        x.bench(1, 0, 1);
        x.measure(0, 0, false, 90);
        x.measure(0, 0, true, 40);
        x.measure(0, 1, false, 85);
        x.measure(0, 1, true, 60);
        x.measure(1, 2, false, 33);
        x.measure(1, 2, true, 0);
        x.harm(1, 5);
        due("26: none is taken", x.other(5, 100, 1000), 0);
        x.set(0, 6);
        x.decide(0, true, true, true);
        due("26: one family: 85 less 60 less 5", x.other(5, 100, 1000), 20);
        due("26: parted: 50", x.other(6, 100, 1000), 50);
        due("26: parts, cut", x.other(5, 33, 1000), 6);
        x.decide(1, true, true, true);
        due("26: parted, both are taken: 50 and 20", x.other(6, 100, 1000), 70);
        due("26: joined: once", x.other(5, 100, 1000), 20);
        x.decide(2, true, true, true);
        due("26: and another shop's", x.other(6, 100, 1000), 103);
        due("26: CAP at most, each", x.other(6, 100, 30), 30 + 20 + 30);
        due("26: parts 0", x.other(6, 0, 1000), 0);
        due("26: LIMIT stays", x.set(0, 6), 6);
        due("26: FAMILIES stay", x.count(5), 3);
        due("26: WORTH stays", x.worth(0), 50);
        due("26: nothing is paid", x.count(9), 0);
    }

    private static void promise27Coins() {
        IdeaWorks x = withJudges();
        due("27: none by pay", x.coins(0, 0), 0);
        due("27: none by delays", x.coins(0, 1), 0);
        x.rule(0, 100, 1000, 5);
        x.idea(0, 0, 3, 0);
        x.measure(0, 0, false, 9);
        x.measure(0, 0, true, 0);
        x.days(35);
        x.decide(0, true, true, true);
        x.days(360);
        due("27: by pay", x.coins(0, 0), 9);
        due("27: by delays", x.coins(0, 1), 5);
        due("27: another hand", x.coins(1, 0), 0);
        due("27: what 2", x.coins(0, 2), -2);
        due("27: what -1", x.coins(0, -1), -2);
        due("27: hand below", x.coins(-1, 0), -1);
        due("27: hand above", x.coins(4, 0), -1);
        due("27: -1 ahead of -2", x.coins(4, 2), -1);
    }

    private static void promise28IdeaOf() {
        IdeaWorks x = withJudges();
        x.rule(0, 100, 1000, 5);
        x.days(3);
        x.idea(0, 0, 0x8001, 8);
        x.measure(0, 0, false, 9);
        x.measure(0, 0, true, 0);
        due("28: open", x.ideaOf(0, 0), 0);
        due("28: came", x.ideaOf(0, 1), 3);
        due("28: not decided", x.ideaOf(0, 2), -9);
        due("28: not paid", x.ideaOf(0, 3), 0);
        due("28: fields", x.ideaOf(0, 4), 8);
        due("28: marks", x.ideaOf(0, 5), 0x8001);
        x.days(4);
        x.decide(0, true, true, true);
        x.days(720);
        due("28: taken", x.ideaOf(0, 0), 1);
        due("28: came", x.ideaOf(0, 1), 3);
        due("28: decided", x.ideaOf(0, 2), 7);
        due("28: paid", x.ideaOf(0, 3), 18);
        due("28: what 6", x.ideaOf(0, 6), -2);
        due("28: what -1", x.ideaOf(0, -1), -2);
        due("28: below", x.ideaOf(-1, 0), -1);
        due("28: above", x.ideaOf(1, 0), -1);
        due("28: -1 ahead of -2", x.ideaOf(1, 6), -1);
    }

    private static void promise29Count() {
        IdeaWorks x = withJudges();
        x.idea(0, 0, 3, 0);
        x.idea(1, 0, 3, 0);
        x.idea(1, 0, 0xF0, 0);
        x.measure(0, 0, true, 1);
        x.rule(0, 1, 1, 1);
        x.work(0, 1);
        x.days(31);
        x.decide(0, true, true, true);
        x.decide(2, false, false, true);
        int[] want = {31, 4, 3, 2, 1, 2, 1, 1, 1, 3};
        for (int what = 0; what < want.length; what++) {
            due("29: what " + what, x.count(what), want[what]);
        }
        x.hand(-1);
        x.hand(-1);
        x.set(4, 0);
        x.reopen(0);
        x.days(0);
        x.days(5000);
        int[] refusals = {2, 1, 1, 1, 0, 1};
        for (int i = 0; i < refusals.length; i++) {
            due("29: refusals " + i, x.count(11 + i), refusals[i]);
        }
        due("29: what 10", x.count(10), -9);
        due("29: what 17", x.count(17), -9);
        due("29: what -1", x.count(-1), -9);
        due("29: the least what", x.count(Integer.MIN_VALUE), -9);
        due("29: the greatest what", x.count(Integer.MAX_VALUE), -9);
        due("29: -9 is no refusal", x.count(11), 2);
    }
}
