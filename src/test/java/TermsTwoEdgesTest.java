/** Part II of the document's terms: each sentence that names an edge, with a test of its own. */
public final class TermsTwoEdgesTest {
    private static final Check CHECK = new Check();

    public static void main(String[] args) {
        toldToJudgeOrNotAnyMore();
        notOfTheShop();
        notOfTheFamilysHands();
        notInTheFamilysTeams();
        notKinOfOneOfThese();
        kinOfKinMay();
        namedLeastOften();
        ofSeveralTheLeastNumbers();
        noneWhereThereAreNotSoMany();
        fortyHandsJudge();
        namingCountsOneMoreForEach();
        twoYesTakeAllOpenOnes();
        twoNoTurnDownItAlone();
        oneOfEachAThirdDecides();
        theThirdIsNotOneOfTheTwo();
        theThirdByHowOftenThen();
        theThirdOfSeveralTheLeastNumber();
        theThirdCountsOneMore();
        withoutAThirdTurnedDown();
        delayAbovePatience();
        patience0To100();
        fine0To99();
        delayToItsHandAsItIsDecided();
        delayOfEachOneThatIsTaken();
        CHECK.end("TermsTwoEdgesTest");
    }

    private static void due(String what, long got, long want) {
        CHECK.due(what, got, want);
    }

    private static void dueJudges(String what, IdeaWorks x, int idea, int first, int second) {
        due(what + ": JUDGE 0", x.judgeOf(idea, 0), first);
        due(what + ": JUDGE 1", x.judgeOf(idea, 1), second);
    }

    private static void toldToJudgeOrNotAnyMore() {
        CHECK.sentence("JUDGES: HANDS told to judge (or not any more)");
        IdeaWorks x = Scene.withHands(0, 1, 1);
        x.idea(0, 0, 3, 0);
        due("nobody judges at first", x.may(1, 0), 0);
        due("not so far", x.judge(1, false), 0);
        due("told", x.judge(1, true), 1);
        due("may", x.may(1, 0), 1);
        due("the other does not", x.may(2, 0), 0);
        due("not any more", x.judge(1, false), 1);
        due("may not", x.may(1, 0), 0);
    }

    private static void notOfTheShop() {
        CHECK.sentence("who does not work in the SHOP for which it is");
        IdeaWorks x = new IdeaWorks();
        for (int shop = 0; shop <= 7; shop++) {
            x.hand(shop);
            x.judge(shop, true);
        }
        x.hand(0);
        x.idea(8, 0, 3, 0);
        x.idea(8, 7, 3, 0);
        for (int h = 0; h <= 7; h++) {
            due("HAND of SHOP " + h + " for SHOP 0", x.may(h, 0), h == 0 ? 0 : 1);
            due("HAND of SHOP " + h + " for SHOP 7", x.may(h, 1), h == 7 ? 0 : 1);
        }
    }

    private static void notOfTheFamilysHands() {
        CHECK.sentence("is not of its FAMILY's HANDS (TEAMS too)");
        IdeaWorks x = Scene.withJudges(3);
        x.idea(0, 0, 0b0111, 0);
        x.idea(1, 0, 0b1110, 0);
        x.idea(2, 0, 0b11100, 0);
        due("the FAMILY's least", x.family(2), 0);
        due("one that is ALIKE told it", x.may(1, 0), 0);
        due("one by another between told it", x.may(2, 0), 0);
        due("a stranger", x.may(3, 0), 1);
        x.set(0, 5);
        due("apart: 1 for 0", x.may(1, 0), 1);
        due("apart: 1 for its own", x.may(1, 1), 0);
        due("apart: 2 for 0", x.may(2, 0), 1);
    }

    private static void notInTheFamilysTeams() {
        CHECK.sentence("is not of its FAMILY's HANDS (TEAMS too)");
        IdeaWorks x = Scene.withJudges(8);
        x.idea(0, 0, 3, 0);
        x.idea(0, 0, 3, 0);
        for (int h = 1; h <= 6; h++) {
            x.team(1, h);
        }
        for (int h = 1; h <= 8; h++) {
            due("in the TEAM of another of the FAMILY: " + h, x.may(h, 0), h <= 6 ? 0 : 1);
        }
        dueJudges("the two left", x, 0, 7, 8);
        x.set(0, 7);
        due("apart", x.may(1, 0), 1);
        due("in its own TEAM", x.may(1, 1), 0);
    }

    private static void notKinOfOneOfThese() {
        CHECK.sentence("nor KIN of one of these");
        IdeaWorks x = Scene.withJudges(5);
        x.idea(0, 0, 3, 0);
        x.idea(1, 0, 3, 0);
        x.team(1, 2);
        x.kin(3, 0, true);
        x.kin(1, 4, true);
        due("KIN of its HAND", x.may(3, 0), 0);
        due("KIN of the FAMILY's other HAND", x.may(4, 0), 0);
        due("nobody's KIN", x.may(5, 0), 1);
        x.kin(5, 2, true);
        due("KIN of one of a TEAM", x.may(5, 0), 0);
        x.kin(2, 5, false);
        due("KIN no more", x.may(5, 0), 1);
    }

    private static void kinOfKinMay() {
        CHECK.sentence("nor KIN of one of these");
        IdeaWorks x = Scene.withJudges(2);
        x.idea(0, 0, 3, 0);
        x.kin(0, 1, true);
        x.kin(1, 2, true);
        due("KIN", x.may(1, 0), 0);
        due("KIN of KIN", x.may(2, 0), 1);
    }

    private static void namedLeastOften() {
        CHECK.sentence("TWO JUDGES: of those the ones who were named least often so far");
        IdeaWorks x = Scene.withJudges(4);
        for (int i = 0; i < 5; i++) {
            x.idea(0, 0, 1 << i, 0);
        }
        dueJudges("nobody was named", x, 0, 1, 2);
        Scene.take(x, 0);
        dueJudges("1 and 2 were named", x, 1, 3, 4);
        Scene.take(x, 1);
        dueJudges("each was named once", x, 2, 1, 2);
        x.judge(1, false);
        dueJudges("without 1", x, 2, 2, 3);
        Scene.turnDown(x, 2);
        dueJudges("4 once, 2 and 3 twice", x, 3, 4, 2);
        x.judge(1, true);
        dueJudges("1 and 4 once", x, 3, 1, 4);
    }

    private static void ofSeveralTheLeastNumbers() {
        CHECK.sentence("TWO JUDGES: .. of several the least numbers");
        IdeaWorks x = Scene.withHands(0, 2, 1, 2, 1);
        x.idea(0, 0, 3, 0);
        x.idea(0, 1, 3, 0);
        for (int h = 4; h >= 1; h--) {
            x.judge(h, true);
        }
        dueJudges("not by when they were told to judge", x, 0, 1, 2);
        dueJudges("2 and 4 work in that SHOP", x, 1, 1, 3);
        x.kin(0, 1, true);
        dueJudges("without 1", x, 0, 2, 3);
        dueJudges("one is not enough", x, 1, -9, -9);
    }

    private static void noneWhereThereAreNotSoMany() {
        CHECK.sentence("-9 where there are not so many");
        IdeaWorks x = Scene.withHands(0, 1, 1);
        x.idea(0, 0, 3, 0);
        dueJudges("nobody judges", x, 0, -9, -9);
        x.judge(2, true);
        dueJudges("one judges", x, 0, -9, -9);
        due("deciding", x.decide(0, true, true, true), -3);
        x.judge(1, true);
        dueJudges("two judge", x, 0, 1, 2);
        x.team(0, 1);
        dueJudges("one of them is in the TEAM", x, 0, -9, -9);
        due("deciding", x.decide(0, true, true, true), -3);
        due("OPEN still", x.ideaOf(0, 0), 0);
        due("-9 is no refusal", Scene.refusals(x), 2);
    }

    private static void fortyHandsJudge() {
        CHECK.sentence("TWO JUDGES: of those the ones who were named least often so far");
        IdeaWorks x = Scene.withJudges(39);
        for (int i = 0; i < 20; i++) {
            x.idea(0, 0, 1 << i % 16, 0);
        }
        for (int i = 0; i < 19; i++) {
            dueJudges("two by two", x, i, 2 * i + 1, 2 * i + 2);
            Scene.take(x, i);
        }
        dueJudges("the last HAND, and the first once more", x, 19, 39, 1);
    }

    private static void namingCountsOneMoreForEach() {
        CHECK.sentence("NAMING them for an OPEN IDEA counts one more for each");
        IdeaWorks x = Scene.withJudges(3);
        x.idea(0, 0, 1, 0);
        x.idea(0, 0, 2, 0);
        x.idea(0, 0, 4, 0);
        x.judgeOf(0, 0);
        x.judgeOf(0, 1);
        dueJudges("asking counts nothing", x, 0, 1, 2);
        Scene.turnDown(x, 0);
        dueJudges("both count one more", x, 1, 3, 1);
        due("it is not OPEN", x.decide(0, true, true, true), -3);
        dueJudges("which counts nothing", x, 1, 3, 1);
        Scene.turnDown(x, 1);
        dueJudges("1 twice, 2 and 3 once", x, 2, 2, 3);
    }

    private static void twoYesTakeAllOpenOnes() {
        CHECK.sentence("two yes: all OPEN ones of its FAMILY are TAKEN");
        for (int third = 0; third <= 1; third++) {
            IdeaWorks x = Scene.withJudges(3);
            for (int i = 0; i < 5; i++) {
                x.idea(0, i == 4 ? 1 : 0, i == 3 ? 0xF0 : 3, 0);
            }
            Scene.turnDown(x, 1);
            x.days(1);
            due("TAKEN", x.decide(2, true, true, third == 1), 1);
            due("the FAMILY's first", x.ideaOf(0, 0), 1);
            due("its DAY", x.ideaOf(0, 2), 1);
            due("the one TURNED DOWN before", x.ideaOf(1, 0), 2);
            due("its DAY", x.ideaOf(1, 2), 0);
            due("another FAMILY", x.ideaOf(3, 0), 0);
            due("another SHOP", x.ideaOf(4, 0), 0);
            due("TAKEN ones", x.count(3), 2);
            due("no OPEN one is left in it", x.decide(0, true, true, true), -3);
        }
    }

    private static void twoNoTurnDownItAlone() {
        CHECK.sentence("two no: it is TURNED DOWN");
        for (int third = 0; third <= 1; third++) {
            IdeaWorks x = Scene.withJudges(3);
            x.idea(0, 0, 3, 0);
            x.idea(0, 0, 3, 0);
            due("TURNED DOWN", x.decide(0, false, false, third == 1), 2);
            due("the other of its FAMILY", x.ideaOf(1, 0), 0);
            due("no third was named", x.judgeOf(1, 0), 3);
            due("the other can be TAKEN", x.decide(1, true, true, third == 1), 1);
            due("TURNED DOWN still", x.ideaOf(0, 0), 2);
        }
    }

    private static void oneOfEachAThirdDecides() {
        CHECK.sentence("one of each: a third one is named .., who decides");
        for (int votes = 0; votes < 4; votes++) {
            boolean first = (votes & 1) != 0;
            boolean third = (votes & 2) != 0;
            IdeaWorks x = Scene.withJudges(3);
            x.idea(0, 0, 3, 0);
            x.idea(0, 0, 3, 0);
            due("as the third says", x.decide(1, first, !first, third), third ? 1 : 2);
            due("the other of its FAMILY", x.ideaOf(0, 0), third ? 1 : 0);
        }
    }

    private static void theThirdIsNotOneOfTheTwo() {
        CHECK.sentence("a third one is named (.. not one of the two ..)");
        IdeaWorks x = Scene.withJudges(3);
        for (int i = 0; i < 5; i++) {
            x.idea(0, 0, 1 << i, 0);
        }
        x.judge(1, false);
        Scene.take(x, 0);
        x.judge(1, true);
        x.judge(3, false);
        Scene.take(x, 1);
        x.judge(3, true);
        dueJudges("2 was named twice, 1 and 3 once", x, 2, 1, 3);
        due("2 is the third though named as often as they then", x.decide(2, true, false, true), 1);
        dueJudges("1 and 3 twice, 2 thrice", x, 3, 1, 3);
    }

    private static void theThirdByHowOftenThen() {
        CHECK.sentence("a third one is named (by how often they were named then ..)");
        IdeaWorks x = Scene.withJudges(5);
        for (int i = 0; i < 5; i++) {
            x.idea(0, 0, 1 << i, 0);
        }
        x.judge(4, false);
        x.judge(5, false);
        x.judge(1, false);
        Scene.take(x, 0);
        x.judge(1, true);
        x.judge(4, true);
        dueJudges("2 and 3 were named once", x, 1, 1, 4);
        x.judge(5, true);
        dueJudges("5 is as new as they", x, 1, 1, 4);
        due("5 is the third, before 2 and 3", x.decide(1, false, true, true), 1);
        dueJudges("each was named once", x, 2, 1, 2);
        Scene.take(x, 2);
        dueJudges("3, 4, 5 once", x, 3, 3, 4);
    }

    private static void theThirdOfSeveralTheLeastNumber() {
        CHECK.sentence("TWO JUDGES: .. of several the least numbers; .. a third one is named");
        IdeaWorks x = Scene.withJudges(5);
        x.idea(0, 0, 1, 0);
        x.idea(0, 0, 2, 0);
        x.decide(0, true, false, true);
        dueJudges("1, 2 and 3 were named", x, 1, 4, 5);
    }

    private static void theThirdCountsOneMore() {
        CHECK.sentence("a third one is named (.. and counts one more)");
        IdeaWorks x = Scene.withJudges(4);
        x.idea(0, 0, 1, 0);
        x.idea(0, 0, 2, 0);
        x.decide(0, true, false, false);
        dueJudges("only 4 was not named, all others once", x, 1, 4, 1);
        IdeaWorks same = Scene.withJudges(4);
        same.idea(0, 0, 1, 0);
        same.idea(0, 0, 2, 0);
        same.decide(0, true, true, false);
        dueJudges("no third: 3 and 4 were not named", same, 1, 3, 4);
    }

    private static void withoutAThirdTurnedDown() {
        CHECK.sentence("without a third one it is TURNED DOWN");
        for (int votes = 0; votes < 2; votes++) {
            IdeaWorks x = Scene.withJudges(2);
            x.idea(0, 0, 3, 0);
            x.idea(0, 0, 3, 0);
            due("TURNED DOWN", x.decide(0, votes == 0, votes == 1, true), 2);
            due("the other of its FAMILY is OPEN", x.ideaOf(1, 0), 0);
        }
        IdeaWorks kin = Scene.withJudges(3);
        kin.idea(0, 0, 3, 0);
        kin.idea(1, 0, 12, 0);
        kin.kin(0, 3, true);
        due("the third is KIN", kin.decide(0, true, false, true), 2);
        dueJudges("and was not named", kin, 1, 3, 2);
    }

    private static int delayAfter(int days, int patience, int fine) {
        IdeaWorks x = Scene.withIdeas(3);
        x.set(2, patience);
        x.set(3, fine);
        if (days > 0) {
            x.days(days);
        }
        Scene.turnDown(x, 0);
        return x.coins(0, 1);
    }

    private static void delayAbovePatience() {
        CHECK.sentence("DELAY of an IDEA: DAYS .. above PATIENCE (.. 30 at first), times FINE (.. 1 at first) coins");
        int[] days = {1, 29, 30, 31, 32, 3000};
        int[] coins = {0, 0, 0, 1, 2, 2970};
        for (int i = 0; i < days.length; i++) {
            IdeaWorks x = Scene.withIdeas(3);
            x.days(days[i]);
            Scene.take(x, 0);
            due("after DAYS: " + days[i], x.coins(0, 1), coins[i]);
        }
        IdeaWorks late = Scene.withIdeas();
        late.days(2960);
        late.idea(0, 0, 3, 0);
        late.days(40);
        Scene.take(late, 0);
        due("from the DAY on which it came", late.coins(0, 1), 10);
    }

    private static void patience0To100() {
        CHECK.sentence("PATIENCE (0 .. 100; 30 at first)");
        IdeaWorks x = new IdeaWorks();
        due("-1", x.set(2, -1), -4);
        due("101", x.set(2, 101), -6);
        due("the least int", x.set(2, Scene.LEAST_INT), -4);
        due("the greatest int", x.set(2, Scene.GREATEST_INT), -6);
        due("the least", x.set(2, 0), 30);
        due("the greatest", x.set(2, 100), 0);
        due("it stays", x.set(2, 30), 100);
        due("PATIENCE 0, the same DAY", delayAfter(0, 0, 5), 0);
        due("PATIENCE 0, the next DAY", delayAfter(1, 0, 5), 5);
        due("PATIENCE 100, 100 DAYS", delayAfter(100, 100, 5), 0);
        due("PATIENCE 100, 101 DAYS", delayAfter(101, 100, 5), 5);
    }

    private static void fine0To99() {
        CHECK.sentence("FINE (0 .. 99; 1 at first)");
        IdeaWorks x = new IdeaWorks();
        due("-1", x.set(3, -1), -4);
        due("100", x.set(3, 100), -6);
        due("the least int", x.set(3, Scene.LEAST_INT), -4);
        due("the greatest int", x.set(3, Scene.GREATEST_INT), -6);
        due("the least", x.set(3, 0), 1);
        due("the greatest", x.set(3, 99), 0);
        due("it stays", x.set(3, 1), 99);
        due("FINE 0", delayAfter(3000, 0, 0), 0);
        due("the most", delayAfter(3000, 0, 99), 297000);
    }

    private static void delayToItsHandAsItIsDecided() {
        CHECK.sentence("DELAY .. coins, to its HAND, as it is decided");
        IdeaWorks x = Scene.withJudges(2);
        x.hand(3);
        x.hand(3);
        x.idea(3, 0, 3, 0);
        x.team(0, 4);
        x.set(2, 0);
        x.days(10);
        due("not ahead of it", x.coins(3, 1), 0);
        due("deciding", x.decide(0, true, false, true), 2);
        due("as it is decided", x.coins(3, 1), 10);
        due("not the TEAM", x.coins(4, 1), 0);
        due("not by PAY", x.coins(3, 0), 0);
        x.days(10);
        due("nothing more as DAYS pass", x.coins(3, 1), 10);
        due("a refused decision", x.decide(0, true, true, true), -3);
        due("costs nothing", x.coins(3, 1), 10);
        due("in all", x.count(9), 10);
    }

    private static void delayOfEachOneThatIsTaken() {
        CHECK.sentence("DELAY .. (each one that is TAKEN or TURNED DOWN then)");
        IdeaWorks x = Scene.withJudges(2);
        for (int h = 3; h <= 6; h++) {
            x.hand(3);
            x.idea(h, 0, 3, 0);
            x.days(1);
        }
        x.set(2, 2);
        x.set(3, 10);
        Scene.turnDown(x, 0);
        due("4 DAYS, TURNED DOWN", x.coins(3, 1), 20);
        Scene.take(x, 3);
        due("3 DAYS, TAKEN with it", x.coins(4, 1), 10);
        due("2 DAYS, TAKEN with it", x.coins(5, 1), 0);
        due("1 DAY, TAKEN", x.coins(6, 1), 0);
        due("the one TURNED DOWN before gets no more", x.coins(3, 1), 20);
    }
}
