/** 'What it is', and the sentences of the document's terms that name no edge, with a test of their own each. */
public final class TermsWholeTest {
    private static final Check CHECK = new Check();

    public static void main(String[] args) {
        anyoneMaySay();
        toldByManyJoined();
        firstOnesFound();
        neitherKinNorShamed();
        beyondDoubtOnly();
        byTheRulesOfItsDay();
        turnedDownThenDone();
        harmTakenOff();
        otherRulesTried();
        atMost512Calls();
        objectsKnowNothingOfEachOther();
        handsHaveAShop();
        ideasOfAHand();
        ideasForAShop();
        sharesAreThousandths();
        aTeamOfOneIdea();
        mayJudgeAnIdea();
        bothSayYesOrNo();
        delayFromWhenItCame();
        benchesEachOfAShop();
        beforeOrAfter();
        costOfAUnit();
        paidByNumbers();
        partedByItsTeam();
        worksForAShop();
        worksOnTheDayOfNow();
        reopeningIsTold();
        otherByToldPartsAndCap();
        refusalsNobody();
        refusalsOther();
        refusalsState();
        refusalsBelow();
        refusalsRoom();
        noneIsNoRefusal();
        CHECK.end("TermsWholeTest");
    }

    private static void due(String what, long got, long want) {
        CHECK.due(what, got, want);
    }

    private static void anyoneMaySay() {
        CHECK.sentence("a works where anyone may say how to do it better");
        IdeaWorks x = Scene.withHands(0, 3, 7);
        x.judge(1, true);
        int told = 0;
        for (int hand = 0; hand < 3; hand++) {
            for (int shop = 0; shop <= 7; shop++) {
                due("HAND " + hand + " for SHOP " + shop, x.idea(hand, shop, 1, 0), told);
                told++;
            }
        }
        due("all were told", x.count(2), 24);
    }

    private static void toldByManyJoined() {
        CHECK.sentence("the same idea told by many joined");
        IdeaWorks x = Scene.withHands(0, 1, 2, 3);
        for (int hand = 0; hand < 4; hand++) {
            x.idea(hand, 5, 0b1011, 0);
        }
        due("one FAMILY", x.count(5), 1);
        for (int idea = 0; idea < 4; idea++) {
            due("joined: " + idea, x.family(idea), 0);
        }
    }

    private static void firstOnesFound() {
        CHECK.sentence("the same idea told by many joined and first ones found");
        IdeaWorks x = Scene.withHands(0, 1, 2, 3);
        x.idea(0, 5, 0b0011, 0);
        x.idea(1, 5, 0b1100, 0);
        x.days(1);
        x.idea(2, 5, 0b1111, 9);
        due("of two that were first, joined by the third, the less", x.head(2), 0);
        due("the HEAD's SHARE", x.share(0), 600 + (400 - 400 / 11 - 4000 / 11));
        due("the other first one's", x.share(1), 400 / 11);
        due("the third one's", x.share(2), 4000 / 11);
    }

    private static void neitherKinNorShamed() {
        CHECK.sentence("judges who are neither kin nor shamed");
        IdeaWorks x = Scene.withJudges(5);
        x.idea(0, 0, 3, 0);
        x.idea(4, 0, 3, 0);
        x.kin(0, 1, true);
        x.kin(4, 2, true);
        due("KIN of who told it", x.may(1, 0), 0);
        due("KIN of who told the same", x.may(2, 0), 0);
        due("neither", x.may(3, 0), 1);
        due("who told the same", x.may(4, 0), 0);
        due("neither", x.may(5, 0), 1);
        due("one", x.judgeOf(0, 0), 3);
        due("two", x.judgeOf(0, 1), 5);
    }

    private static void beyondDoubtOnly() {
        CHECK.sentence("worth on trial benches beyond doubt only");
        IdeaWorks x = Scene.withIdeas(3);
        x.measure(0, 0, false, 80);
        x.measure(0, 0, false, 40);
        x.measure(0, 0, true, 50);
        x.measure(0, 0, true, 10);
        due("hoped for", x.saved(0, 0, 1), 30);
        due("in doubt", x.saved(0, 0, 0), 0);
        due("is worth nothing", x.worth(0), 0);
        x.measure(1, 0, false, 40);
        x.measure(1, 0, true, 39);
        due("beyond doubt at another BENCH", x.worth(0), 1);
    }

    private static void byTheRulesOfItsDay() {
        CHECK.sentence("paid by the rules of its day as it comes true");
        IdeaWorks x = Scene.withJudges(2);
        x.rule(0, 50, 100000, 5);
        x.idea(0, 0, 3, 0);
        x.days(1);
        x.rule(1, 100, 100000, 5);
        x.idea(0, 0, 12, 0);
        Scene.save(x, 100);
        x.measure(1, 1, false, 7);
        x.measure(1, 1, true, 0);
        Scene.take(x, 0);
        Scene.take(x, 1);
        due("both are paid", x.days(360), 57);
        due("half of it, by the RULE of the DAY before", x.ideaOf(0, 3), 50);
        due("all of it, by the RULE of the DAY", x.ideaOf(1, 3), 7);
        x.measure(0, 0, true, 90);
        due("as it comes true: 10 are saved now", x.days(360), 12);
    }

    private static void turnedDownThenDone() {
        CHECK.sentence("ideas that were turned down and then done led back");
        IdeaWorks x = Scene.withIdeas(7, 56);
        x.rule(0, 100, 100000, 1);
        Scene.save(x, 40);
        due("turned down", x.decide(0, false, false, true), 2);
        x.days(5);
        due("then done", x.work(0, 7), 0);
        due("led back", x.ledBack(0), 0);
        due("reopened", x.reopen(0), 0);
        due("paid like any other", x.days(360), 40);
    }

    private static void harmTakenOff() {
        CHECK.sentence("harm taken off");
        IdeaWorks x = Scene.withIdeas(3);
        x.rule(0, 50, 100000, 2);
        Scene.save(x, 100);
        x.harm(0, 30);
        Scene.take(x, 0);
        due("ahead of the PARTS", x.days(360), 35);
        x.harm(0, 100);
        due("nothing is left", x.days(360), 0);
    }

    private static void otherRulesTried() {
        CHECK.sentence("other rules tried on the same ideas");
        IdeaWorks x = Scene.withIdeas(3);
        x.rule(0, 50, 100000, 1);
        Scene.save(x, 100);
        Scene.take(x, 0);
        due("tried", x.other(4, 10, 100000), 10);
        due("tried again", x.other(4, 90, 80), 80);
        due("the RULE is the same", x.ruleOf(0), 0);
        due("no RULE more", x.count(7), 1);
        due("nothing was paid by it", x.count(9), 0);
        due("paid by the RULE", x.days(360), 50);
    }

    private static void atMost512Calls() {
        CHECK.sentence("An object is used for at most 512 calls after it has been made");
        IdeaWorks x = Scene.withIdeas(3);
        x.rule(0, 100, 100000, 5);
        Scene.save(x, 9);
        Scene.take(x, 0);
        // These were 6 for HANDS, judges and the IDEA, 1 for the RULE, 2 for MEASURES, 1 to decide.
        for (int call = 11; call <= 510; call++) {
            due("a refused call, number " + call, x.hand(8), -1);
        }
        due("call 511", x.days(360), 9);
        due("call 512", x.count(11), 500);
    }

    private static void objectsKnowNothingOfEachOther() {
        CHECK.sentence("An object is used for ..");
        IdeaWorks one = Scene.withIdeas(3, 3);
        IdeaWorks two = Scene.withIdeas(3);
        one.set(0, 40);
        one.bench(0, 1, 7);
        one.days(3);
        one.judge(1, false);
        one.hand(8);
        due("DAY", two.count(0), 0);
        due("IDEAS", two.count(2), 1);
        due("refusals", two.count(11), 0);
        due("LIMIT", two.set(0, 4), 4);
        due("UNITS", two.bench(0, 1, 100), 100);
        due("who judges", two.judge(1, true), 0);
        due("one's FAMILIES", one.count(5), 2);
    }

    private static void handsHaveAShop() {
        CHECK.sentence("HANDS ..: a SHOP, and are KIN in twos (told)");
        IdeaWorks x = Scene.withHands(0, 5, 5, 2);
        x.idea(0, 5, 3, 0);
        x.idea(0, 2, 3, 0);
        for (int hand = 1; hand <= 3; hand++) {
            x.judge(hand, true);
        }
        due("HAND 1 is of SHOP 5", x.may(1, 0), 0);
        due("HAND 2 is of SHOP 5", x.may(2, 0), 0);
        due("HAND 3 is of SHOP 2", x.may(3, 0), 1);
        due("HAND 1 is not of SHOP 2", x.may(1, 1), 1);
        due("HAND 2 is not of SHOP 2", x.may(2, 1), 1);
        due("HAND 3 is of SHOP 2", x.may(3, 1), 0);
    }

    private static void ideasOfAHand() {
        CHECK.sentence("IDEAS ..: of a HAND");
        IdeaWorks x = Scene.withHands(0, 0, 1, 1);
        x.judge(2, true);
        x.judge(3, true);
        x.rule(0, 100, 100000, 1);
        x.set(2, 0);
        x.idea(1, 0, 3, 0);
        x.idea(0, 0, 12, 0);
        Scene.save(x, 8);
        x.days(1);
        Scene.take(x, 0);
        due("its DELAY is its HAND's", x.coins(1, 1), 1);
        due("not another's", x.coins(0, 1), 0);
        x.days(360);
        due("its pay is its HAND's", x.coins(1, 0), 8);
        due("not another's", x.coins(0, 0), 0);
        due("its HAND is not in its TEAM", x.team(0, 1), -3);
        due("another may be", x.team(0, 0), 1);
    }

    private static void ideasForAShop() {
        CHECK.sentence("IDEAS ..: .. for a SHOP");
        IdeaWorks x = Scene.withHands(2, 4, 2, 4, 6);
        for (int hand = 1; hand <= 4; hand++) {
            x.judge(hand, true);
        }
        x.idea(0, 4, 3, 0);
        due("who works in the SHOP for which it is", x.may(1, 0), 0);
        due("who works in its HAND's SHOP", x.may(2, 0), 1);
        x.bench(0, 0, 2);
        x.bench(1, 0, 4);
        due("a BENCH of its HAND's SHOP", x.measure(0, 0, false, 1), -3);
        due("a BENCH of the SHOP for which it is", x.measure(1, 0, false, 1), 1);
        Scene.turnDown(x, 0);
        due("a WORK for its HAND's SHOP", x.work(2, 3), -9);
        due("a WORK for the SHOP for which it is", x.work(4, 3), 0);
    }

    private static void sharesAreThousandths() {
        CHECK.sentence("SHARES of a FAMILY (thousandths)");
        int[] heads = {0, 1, 333, 600, 999, 1000};
        for (int many = 1; many <= 12; many++) {
            IdeaWorks x = Scene.withHands(0);
            for (int i = 0; i < many; i++) {
                x.idea(0, 0, 3, i * 7 % 10);
            }
            for (int h : heads) {
                x.set(1, h);
                int all = 0;
                for (int i = 0; i < many; i++) {
                    all += x.share(i);
                }
                due("all SHARES of " + many + ", HEADS " + h, all, 1000);
            }
        }
    }

    private static void aTeamOfOneIdea() {
        CHECK.sentence("TEAMS: a HAND may be told to be in one TEAM with an IDEA");
        IdeaWorks x = Scene.withJudges(4);
        x.rule(0, 100, 100000, 1);
        x.idea(0, 0, 3, 0);
        x.idea(0, 0, 3, 0);
        Scene.save(x, 100);
        due("in the TEAM of the second", x.team(1, 4), 1);
        Scene.take(x, 0);
        due("both are paid", x.days(360), 100);
        due("by the second alone: half of 40", x.coins(4, 0), 20);
        due("its HAND: 60 and the other half", x.coins(0, 0), 80);
    }

    private static void mayJudgeAnIdea() {
        CHECK.sentence("For an IDEA may judge");
        IdeaWorks x = Scene.withJudges(3);
        x.idea(0, 0, 3, 0);
        x.idea(1, 0, 12, 0);
        x.idea(2, 1, 12, 0);
        due("a stranger's IDEA", x.may(1, 0), 1);
        due("its own", x.may(1, 1), 0);
        due("one for its SHOP", x.may(1, 2), 0);
        Scene.turnDown(x, 0);
        due("a decided one", x.may(1, 0), 1);
        due("who may, judges it: one", x.judgeOf(1, 0), 3);
        due("who may, judges it: two", x.judgeOf(1, 1), 2);
        due("nobody may", x.judgeOf(2, 0), -9);
    }

    private static void bothSayYesOrNo() {
        CHECK.sentence("then both say yes or no (told)");
        int[] due = {2, 2, 2, 1};
        for (int said = 0; said < 4; said++) {
            IdeaWorks x = Scene.withIdeas(3);
            boolean one = (said & 1) != 0;
            boolean two = (said & 2) != 0;
            due("one " + one + ", two " + two, x.decide(0, one, two, true), due[said]);
            due("it is so", x.ideaOf(0, 0), due[said]);
        }
    }

    private static void delayFromWhenItCame() {
        CHECK.sentence("DAYS from that on which it came to that on which it was decided (or now)");
        IdeaWorks x = Scene.withIdeas(3);
        x.days(20);
        x.idea(0, 0, 12, 0);
        x.days(40);
        due("nothing while both are OPEN", x.coins(0, 1), 0);
        Scene.turnDown(x, 1);
        due("40 DAYS, 10 above PATIENCE", x.coins(0, 1), 10);
        Scene.take(x, 0);
        due("60 DAYS, 30 above PATIENCE", x.coins(0, 1), 40);
        x.days(100);
        due("nothing more once they are decided", x.coins(0, 1), 40);
    }

    private static void benchesEachOfAShop() {
        CHECK.sentence("BENCHES 0 .. 9, each of a SHOP");
        IdeaWorks x = Scene.withHands(0);
        x.idea(0, 6, 3, 0);
        for (int bench = 0; bench <= 9; bench++) {
            due("of SHOP 0 at first", x.measure(bench, 0, true, 1), -3);
            due("of SHOP 6 now", x.bench(bench, 0, 6), 0);
            due("measured", x.measure(bench, 0, true, 1), bench + 1);
        }
    }

    private static void beforeOrAfter() {
        CHECK.sentence("MEASURES ..: of a BENCH, of a FAMILY (by an IDEA of it) BEFORE or AFTER");
        IdeaWorks x = Scene.withIdeas(3, 12);
        x.measure(4, 0, false, 70);
        x.measure(4, 0, true, 20);
        due("70 BEFORE, 20 AFTER", x.saved(4, 0, 0), 50);
        x.measure(4, 1, true, 70);
        x.measure(4, 1, false, 20);
        due("20 BEFORE, 70 AFTER", x.saved(4, 1, 0), 0);
        due("no HOPE either", x.saved(4, 1, 1), 0);
        due("the other FAMILY's stay", x.saved(4, 0, 0), 50);
    }

    private static void costOfAUnit() {
        CHECK.sentence("COST of a unit");
        IdeaWorks x = Scene.withIdeas(3);
        x.bench(2, 1, 350);
        x.measure(2, 0, false, 21);
        x.measure(2, 0, true, 10);
        due("11 of each unit", x.saved(2, 0, 0), 11);
        due("350 UNITS, by 100, cut", x.worth(0), 38);
    }

    private static void paidByNumbers() {
        CHECK.sentence("each TAKEN IDEA, by numbers, .. is PAID");
        IdeaWorks x = Scene.withIdeas(3, 12, 48, 192);
        x.rule(0, 100, 100000, 2);
        int sum = 0;
        for (int i = 0; i < 4; i++) {
            x.measure(i, i, false, 10 + i);
            x.measure(i, i, true, 0);
        }
        for (int i = 3; i >= 1; i--) {
            Scene.take(x, i);
            sum += 10 + i;
        }
        due("all of one DAY", x.days(360), sum);
        due("an OPEN one is not", x.ideaOf(0, 3), 0);
        for (int i = 1; i < 4; i++) {
            due("IDEA " + i, x.ideaOf(i, 3), 10 + i);
        }
        due("and once more", x.days(360), sum);
        due("in all", x.count(9), 2 * sum);
    }

    private static void partedByItsTeam() {
        CHECK.sentence("PAY times its SHARE by 1000, cut, all as it is then; that is parted by its TEAM");
        IdeaWorks x = Scene.withJudges(2);
        x.hand(3);
        x.hand(3);
        x.rule(0, 100, 100000, 3);
        x.idea(0, 0, 3, 0);
        x.idea(0, 0, 3, 0);
        Scene.save(x, 111);
        Scene.take(x, 0);
        x.team(0, 3);
        due("66 and 44, each cut", x.days(360), 110);
        due("half of 66", x.coins(3, 0), 33);
        due("the other half, and 44", x.coins(0, 0), 77);
        x.team(1, 4);
        x.team(0, 4);
        due("66 and 44 again", x.days(360), 110);
        due("a third of 66", x.coins(3, 0), 33 + 22);
        due("a third of 66, half of 44", x.coins(4, 0), 22 + 22);
        due("the same for its HAND", x.coins(0, 0), 77 + 22 + 22);
        due("PAID by an IDEA: all of it", x.ideaOf(0, 3), 132);
        due("PAID by the other", x.ideaOf(1, 3), 88);
    }

    private static void worksForAShop() {
        CHECK.sentence("WORKS that were done ..: for a SHOP, MARKS");
        IdeaWorks x = Scene.withJudges(2);
        x.idea(0, 0, 0b000111, 0);
        x.idea(0, 3, 0b000111, 0);
        x.idea(0, 3, 0b111000, 0);
        for (int i = 0; i < 3; i++) {
            Scene.turnDown(x, i);
        }
        due("SHOP 0", x.work(0, 0b000111), 0);
        due("SHOP 3", x.work(3, 0b000111), 1);
        due("SHOP 3, other MARKS", x.work(3, 0b111000), 2);
        due("SHOP 0, other MARKS", x.work(0, 0b111000), -9);
        due("SHOP 4", x.work(4, 0b000111), -9);
        due("WORKS", x.count(8), 5);
        due("each is kept: the second", x.ledBack(1), 1);
        due("each is kept: the last", x.ledBack(4), -9);
    }

    private static void worksOnTheDayOfNow() {
        CHECK.sentence("WORKS that were done ..: .. the DAY of now");
        IdeaWorks x = Scene.withIdeas(7);
        due("done while it is OPEN", x.work(0, 7), -9);
        x.days(4);
        Scene.turnDown(x, 0);
        due("that one leads nothing back later", x.ledBack(0), -9);
        due("so it isn't reopened", x.reopen(0), -3);
        x.days(4);
        due("done later", x.work(0, 7), 0);
        due("the first one still leads nothing back", x.ledBack(0), -9);
        due("now it is reopened", x.reopen(0), 0);
        due("as it was found", x.ledBack(1), 0);
    }

    private static void reopeningIsTold() {
        CHECK.sentence("REOPENING such an IDEA (told)");
        IdeaWorks x = Scene.withIdeas(7);
        Scene.turnDown(x, 0);
        x.work(0, 7);
        x.days(100);
        due("TURNED DOWN until it is told", x.ideaOf(0, 0), 2);
        due("nothing for the DELAY until it is told", x.coins(0, 1), 0);
        due("told", x.reopen(0), 70);
        due("TAKEN", x.ideaOf(0, 0), 1);
        due("to its HAND", x.coins(0, 1), 70);
    }

    private static void otherByToldPartsAndCap() {
        CHECK.sentence("what all TAKEN FAMILIES would be paid a YEAR now .. by told PARTS and CAP");
        IdeaWorks x = Scene.withIdeas(3, 12);
        x.rule(0, 1, 1, 1);
        Scene.save(x, 200);
        x.measure(1, 1, false, 50);
        x.measure(1, 1, true, 0);
        Scene.take(x, 0);
        Scene.take(x, 1);
        due("60 hundredths of 200 and of 50, 100 at most", x.other(4, 60, 100), 100 + 30);
        x.harm(1, 10);
        due("as it is now", x.other(4, 60, 100), 100 + 24);
    }

    /** So many refusals of this number, and none of another. */
    private static void dueRefusals(IdeaWorks x, int number, int many) {
        for (int other = 1; other <= 6; other++) {
            due("REFUSALS -" + other, x.count(10 + other), -other == number ? many : 0);
        }
    }

    private static void refusalsNobody() {
        CHECK.sentence("-1 NOBODY: no such SHOP, HAND, IDEA, BENCH, MARKS");
        IdeaWorks x = Scene.withHands(0);
        due("SHOP", x.hand(8), -1);
        due("HAND", x.judge(1, true), -1);
        due("IDEA", x.family(0), -1);
        due("BENCH", x.bench(10, 1, 0), -1);
        due("MARKS", x.work(0, 0x10000), -1);
        dueRefusals(x, -1, 5);
    }

    private static void refusalsOther() {
        CHECK.sentence("-2 OTHER: what");
        IdeaWorks x = Scene.withIdeas(3);
        due("set", x.set(4, 0), -2);
        due("bench", x.bench(0, 2, 0), -2);
        due("saved", x.saved(0, 0, 2), -2);
        due("coins", x.coins(0, 2), -2);
        due("ideaOf", x.ideaOf(0, 6), -2);
        dueRefusals(x, -2, 5);
    }

    private static void refusalsState() {
        CHECK.sentence("-3 STATE: it is not as it must be");
        IdeaWorks x = Scene.withIdeas(3);
        x.idea(1, 2, 3, 0);
        Scene.turnDown(x, 0);
        due("not OPEN", x.decide(0, true, true, true), -3);
        due("no two JUDGES", x.decide(1, true, true, true), -3);
        due("its own HAND", x.team(0, 0), -3);
        due("another SHOP", x.measure(0, 1, true, 0), -3);
        due("not LED BACK", x.reopen(0), -3);
        dueRefusals(x, -3, 5);
    }

    private static void refusalsBelow() {
        CHECK.sentence("-4 BELOW: a number below the least");
        IdeaWorks x = Scene.withIdeas(3);
        due("FIELDS", x.idea(0, 0, 3, -1), -4);
        due("LIMIT", x.set(0, 0), -4);
        due("DAYS", x.days(0), -4);
        due("UNITS", x.bench(0, 1, -1), -4);
        due("COST", x.measure(0, 0, true, -1), -4);
        due("HARM", x.harm(0, -1), -4);
        due("YEARS", x.rule(0, 0, 0, 0), -4);
        due("PARTS", x.other(1, -1, 0), -4);
        dueRefusals(x, -4, 8);
    }

    private static void refusalsRoom() {
        CHECK.sentence("-6 ROOM: a number above the greatest, no room");
        IdeaWorks x = Scene.withIdeas(3);
        due("FIELDS", x.idea(0, 0, 3, 10), -6);
        due("LIMIT", x.set(0, 41), -6);
        due("DAYS", x.days(3001), -6);
        due("UNITS", x.bench(0, 1, 10001), -6);
        due("COST", x.measure(0, 0, true, 10000), -6);
        due("HARM", x.harm(0, 100001), -6);
        due("YEARS", x.rule(0, 0, 0, 6), -6);
        due("PARTS", x.other(1, 101, 0), -6);
        for (int w = 0; w < 20; w++) {
            x.work(0, 1);
        }
        due("no room", x.work(0, 1), -6);
        dueRefusals(x, -6, 9);
    }

    private static void noneIsNoRefusal() {
        CHECK.sentence("-9 where there are not so many; -9 none; -9 for another what");
        IdeaWorks x = Scene.withHands(0);
        x.idea(0, 0, 3, 0);
        due("judgeOf", x.judgeOf(0, 0), -9);
        due("ruleOf", x.ruleOf(0), -9);
        due("work", x.work(0, 3), -9);
        due("ledBack", x.ledBack(7), -9);
        due("ideaOf", x.ideaOf(0, 2), -9);
        due("count", x.count(10), -9);
        due("count", x.count(17), -9);
        dueRefusals(x, -9, 0);
    }
}
