/** Part IV of the document's terms: each sentence that names an edge, with a test of its own. */
public final class TermsFourEdgesTest {
    private static final Check CHECK = new Check();

    public static void main(String[] args) {
        works20AtMost();
        ledBackOfThatShop();
        ledBackTurnedDownOnly();
        ledBackOnADayBeforeOrOnIt();
        ledBackLikenessLimitOrMore();
        ledBackTheGreatestLikeness();
        ledBackTheEarliestDay();
        ledBackTheMoreFields();
        ledBackTheLeastNumber();
        ledBackOfForty();
        reopenSuchAnIdea();
        reopenTakenOnThatDay();
        reopenDelayOnceMore();
        reopenDelayAtPatience();
        otherTakenFamiliesOnly();
        otherPartsCutCapAtMost();
        otherToldLimit();
        otherMeasuresAllTogether();
        otherHarmAddedUp();
        otherHeadsTeamsRulesAside();
        otherTheMost();
        otherChangesNothing();
        CHECK.end("TermsFourEdgesTest");
    }

    private static void due(String what, long got, long want) {
        CHECK.due(what, got, want);
    }

    private static void works20AtMost() {
        CHECK.sentence("WORKS that were done (20 at most)");
        IdeaWorks x = Scene.withIdeas(15, 0xF0);
        for (int w = 0; w < 19; w++) {
            due("none is LED BACK", x.work(0, 15), -9);
            due("WORKS", x.count(8), w + 1);
        }
        Scene.turnDown(x, 0);
        Scene.turnDown(x, 1);
        due("the last one leads back", x.work(0, 15), 0);
        due("one more", x.work(0, 0xF0), -6);
        due("there are 20", x.count(8), 20);
        due("the last one", x.ledBack(19), 0);
        due("the last but one", x.ledBack(18), -9);
        due("no such WORK", x.ledBack(20), -9);
        due("nothing was LED BACK by the refused one", x.reopen(1), -3);
        due("by the last one there was", x.reopen(0), 0);
    }

    private static void ledBackOfThatShop() {
        CHECK.sentence("LED BACK: of IDEAS of that SHOP");
        IdeaWorks x = Scene.withJudges(2);
        x.hand(2);
        x.hand(2);
        x.judge(3, true);
        x.judge(4, true);
        for (int shop = 0; shop <= 7; shop++) {
            x.idea(0, shop, 65535, 0);
            Scene.turnDown(x, shop);
        }
        due("all are TURNED DOWN", x.count(4), 8);
        for (int shop = 0; shop <= 7; shop++) {
            due("of SHOP " + shop, x.work(shop, 65535), shop);
        }
    }

    private static void ledBackTurnedDownOnly() {
        CHECK.sentence("LED BACK: of IDEAS .. that were TURNED DOWN");
        IdeaWorks x = Scene.withIdeas(15, 0xF0, 0xF00);
        due("nothing but OPEN ones", x.work(0, 15), -9);
        Scene.take(x, 1);
        due("a TAKEN one", x.work(0, 0xF0), -9);
        Scene.turnDown(x, 2);
        due("a TURNED DOWN one", x.work(0, 0xF00), 2);
        due("still not the OPEN one", x.work(0, 15), -9);
        due("without IDEAS", new IdeaWorks().work(0, 15), -9);
    }

    private static void ledBackOnADayBeforeOrOnIt() {
        CHECK.sentence("LED BACK: .. TURNED DOWN on a DAY before (or on it)");
        IdeaWorks x = Scene.withIdeas(15, 0xF0);
        due("before it was TURNED DOWN", x.work(0, 15), -9);
        x.days(5);
        Scene.turnDown(x, 0);
        due("on it", x.work(0, 15), 0);
        x.days(1);
        due("a DAY later", x.work(0, 15), 0);
        x.days(2994);
        due("on the last DAY", x.work(0, 15), 0);
        due("the first WORK found none, and it stays so", x.ledBack(0), -9);
    }

    private static void ledBackLikenessLimitOrMore() {
        CHECK.sentence("LED BACK: .. LIKENESS LIMIT or more");
        IdeaWorks x = Scene.withIdeas(0b0111, 0xFFF0);
        Scene.turnDown(x, 0);
        due("LIKENESS 4", x.work(0, 0b1110), 0);
        due("LIKENESS 3", x.work(0, 0b11110), -9);
        x.set(0, 3);
        due("LIKENESS 3 with LIMIT 3", x.work(0, 0b11110), 0);
        x.set(0, 1);
        due("LIKENESS 1 with LIMIT 1", x.work(0, 0b01), 0);
        due("LIKENESS 0 with LIMIT 1", x.work(0, 0b1001), -9);
        x.set(0, 9);
        due("LIKENESS 9 with LIMIT 9", x.work(0, 0b0111), 0);
        x.set(0, 10);
        due("LIKENESS 9 with LIMIT 10", x.work(0, 0b0111), -9);
        Scene.turnDown(x, 1);
        x.set(0, 40);
        due("LIKENESS 36 with LIMIT 40", x.work(0, 0xFFF0), -9);
    }

    private static void ledBackTheGreatestLikeness() {
        CHECK.sentence("LED BACK: .. the one of the greatest LIKENESS");
        IdeaWorks x = Scene.withIdeas(0b001111, 0b011111, 0b111111);
        x.set(0, 40);
        for (int i = 0; i < 3; i++) {
            Scene.turnDown(x, i);
        }
        x.set(0, 4);
        due("12 of 11 and 10", x.work(0, 0b001111), 0);
        due("15 of 11 and 14", x.work(0, 0b011111), 1);
        due("18 of 10 and 14", x.work(0, 0b111111), 2);
        x.days(1);
        x.idea(0, 0, 0b1, 9);
        due("an OPEN one does not count", x.work(0, 0b1), -9);
    }

    /** Turned down ones of the same MARKS: IDEA i came on DAY days[i] and has fields[i]. */
    private static IdeaWorks withTurnedDown(int[] days, int[] fields) {
        IdeaWorks x = Scene.withIdeas();
        for (int i = 0; i < days.length; i++) {
            if (days[i] > x.count(0)) {
                x.days(days[i] - x.count(0));
            }
            x.idea(0, 0, 15, fields[i]);
        }
        for (int i = days.length - 1; i >= 0; i--) {
            Scene.turnDown(x, i);
        }
        return x;
    }

    private static void ledBackTheEarliestDay() {
        CHECK.sentence("LED BACK: .. of several the HEAD's order (DAY ..)");
        due("one DAY earlier", withTurnedDown(new int[] {3, 4}, new int[] {0, 9}).work(0, 15), 0);
        due("the FIELDS of one DAY", withTurnedDown(new int[] {3, 3, 4}, new int[] {0, 1, 9}).work(0, 15), 1);
    }

    private static void ledBackTheMoreFields() {
        CHECK.sentence("LED BACK: .. of several the HEAD's order (.. FIELDS ..)");
        due("one more FIELD", withTurnedDown(new int[] {0, 0}, new int[] {8, 9}).work(0, 15), 1);
        due("one fewer", withTurnedDown(new int[] {0, 0}, new int[] {9, 8}).work(0, 15), 0);
        due("none or one", withTurnedDown(new int[] {0, 0}, new int[] {0, 1}).work(0, 15), 1);
    }

    private static void ledBackTheLeastNumber() {
        CHECK.sentence("LED BACK: .. of several the HEAD's order (.. number)");
        IdeaWorks x = withTurnedDown(new int[] {0, 0, 0, 0}, new int[] {1, 4, 4, 4});
        due("the least of three", x.work(0, 15), 1);
        x.reopen(1);
        due("then the next", x.work(0, 15), 2);
        x.reopen(2);
        due("then the last", x.work(0, 15), 3);
        x.reopen(3);
        due("then the one of fewer FIELDS", x.work(0, 15), 0);
        x.reopen(0);
        due("then none", x.work(0, 15), -9);
    }

    private static void ledBackOfForty() {
        CHECK.sentence("IDEAS .. (40 at most); LED BACK: .. the one of the greatest LIKENESS");
        IdeaWorks x = Scene.withIdeas();
        x.set(0, 40);
        for (int i = 0; i < 40; i++) {
            x.idea(0, 0, i == 39 ? 0xFFFF : 0x7FFF, 0);
            Scene.turnDown(x, i);
        }
        due("all are TURNED DOWN", x.count(4), 40);
        due("the last", x.work(0, 0xFFFF), 39);
        due("the first", x.work(0, 0x7FFF), 0);
    }

    private static void reopenSuchAnIdea() {
        CHECK.sentence("REOPENING such an IDEA (told)");
        IdeaWorks x = Scene.withIdeas(15, 0xF0, 0xF00);
        due("an OPEN one", x.reopen(0), -3);
        Scene.turnDown(x, 0);
        due("not LED BACK yet", x.reopen(0), -3);
        x.work(0, 0x33);
        due("not by a WORK that is not like it", x.reopen(0), -3);
        x.work(0, 15);
        x.work(0, 0xF0);
        due("by the second WORK of three", x.reopen(0), 0);
        due("it is not TURNED DOWN any more", x.reopen(0), -3);
        Scene.take(x, 1);
        due("a TAKEN one", x.reopen(1), -3);
        Scene.turnDown(x, 2);
        due("another one TURNED DOWN", x.reopen(2), -3);
        due("no WORK", Scene.withIdeas(3).reopen(0), -3);
        for (int idea : Scene.FAR_OFF) {
            due("IDEA " + idea, x.reopen(idea), -1);
        }
        due("-9 of a WORK is no IDEA", x.reopen(-9), -1);
    }

    private static void reopenTakenOnThatDay() {
        CHECK.sentence("REOPENING ..: it is TAKEN on that DAY, as if decided");
        IdeaWorks x = Scene.withIdeas(15, 15);
        x.rule(0, 100, 100000, 1);
        Scene.save(x, 1000);
        x.days(10);
        Scene.turnDown(x, 0);
        due("decided", x.ideaOf(0, 2), 10);
        x.days(10);
        x.work(0, 15);
        x.days(1);
        due("reopened", x.reopen(0), 0);
        due("TAKEN", x.ideaOf(0, 0), 1);
        due("on that DAY", x.ideaOf(0, 2), 21);
        due("it came when it came", x.ideaOf(0, 1), 0);
        due("the other of its FAMILY", x.ideaOf(1, 0), 0);
        due("TAKEN ones", x.count(3), 1);
        due("TURNED DOWN ones", x.count(4), 0);
        due("by the DAY on which it was TURNED DOWN", x.days(349), 0);
        due("the DAY before its YEAR ends", x.days(10), 0);
        due("that DAY", x.days(1), 600);
    }

    private static void reopenDelayOnceMore() {
        CHECK.sentence("DELAY counts till then (once more, from when it came)");
        IdeaWorks x = Scene.withIdeas();
        x.days(5);
        x.idea(0, 0, 15, 0);
        x.days(31);
        Scene.turnDown(x, 0);
        due("as it was TURNED DOWN", x.coins(0, 1), 1);
        x.work(0, 15);
        x.days(1);
        x.set(3, 10);
        due("once more, from when it came", x.reopen(0), 20);
        due("both", x.coins(0, 1), 21);
        due("in all", x.count(9), 21);
        due("refused", x.reopen(0), -3);
        due("which costs nothing", x.coins(0, 1), 21);
    }

    private static void reopenDelayAtPatience() {
        CHECK.sentence("DELAY .. above PATIENCE .. till then");
        int[] days = {29, 30, 31, 3000};
        int[] coins = {0, 0, 1, 2970};
        for (int i = 0; i < days.length; i++) {
            IdeaWorks x = Scene.withIdeas(15);
            Scene.turnDown(x, 0);
            x.work(0, 15);
            x.days(days[i]);
            due("after DAYS: " + days[i], x.reopen(0), coins[i]);
        }
        IdeaWorks most = Scene.withIdeas(15);
        most.set(2, 0);
        most.set(3, 99);
        most.days(3000);
        Scene.turnDown(most, 0);
        most.work(0, 15);
        due("the most", most.reopen(0), 297000);
        due("twice", most.coins(0, 1), 594000);
    }

    private static void otherTakenFamiliesOnly() {
        CHECK.sentence("the sum of PAY over FAMILIES (so made) that have a TAKEN IDEA");
        IdeaWorks x = Scene.withIdeas(3, 3, 12);
        due("no IDEAS", new IdeaWorks().other(1, 100, 100000), 0);
        Scene.save(x, 10);
        x.measure(1, 2, false, 7);
        x.measure(1, 2, true, 0);
        due("none is TAKEN", x.other(4, 100, 100000), 0);
        Scene.turnDown(x, 0);
        due("one is TURNED DOWN", x.other(4, 100, 100000), 0);
        Scene.take(x, 1);
        due("one of the FAMILY is TAKEN", x.other(4, 100, 100000), 10);
        due("alone, it saves nothing", x.other(7, 100, 100000), 0);
        Scene.take(x, 2);
        due("both FAMILIES", x.other(4, 100, 100000), 17);
    }

    private static void otherPartsCutCapAtMost() {
        CHECK.sentence("OTHER RULES: .. by told PARTS and CAP; PAY: .. cut, CAP at most");
        IdeaWorks x = Scene.withIdeas(3, 12);
        Scene.save(x, 99);
        x.measure(1, 1, false, 150);
        x.measure(1, 1, true, 0);
        Scene.take(x, 0);
        Scene.take(x, 1);
        due("PARTS 0", x.other(4, 0, 100000), 0);
        due("PARTS 1, each cut", x.other(4, 1, 100000), 1);
        due("PARTS 99", x.other(4, 99, 100000), 98 + 148);
        due("PARTS 100", x.other(4, 100, 100000), 249);
        due("CAP 0", x.other(4, 100, 0), 0);
        due("CAP 1, each", x.other(4, 100, 1), 2);
        due("CAP 99", x.other(4, 100, 99), 198);
        due("CAP 100", x.other(4, 100, 100), 199);
        due("CAP 150", x.other(4, 100, 150), 249);
        due("CAP 149", x.other(4, 100, 149), 248);
    }

    private static void otherToldLimit() {
        CHECK.sentence("with a told LIMIT for FAMILIES in place of LIMIT");
        IdeaWorks x = Scene.withIdeas(0b011, 0b111, 0x8001, 0x4001);
        x.set(0, 40);
        for (int i = 0; i < 4; i++) {
            x.measure(i, i, false, 10);
            x.measure(i, i, true, 0);
            Scene.take(x, i);
        }
        due("LIMIT 1: all in one FAMILY", x.other(1, 100, 15), 15);
        due("LIMIT 2: two are apart", x.other(2, 100, 15), 35);
        due("LIMIT 5: two are ALIKE", x.other(5, 100, 15), 35);
        due("LIMIT 6: none are", x.other(6, 100, 15), 40);
        due("LIMIT 40", x.other(40, 100, 15), 40);
        due("LIMIT stays", x.set(0, 40), 40);
        due("FAMILIES stay", x.count(5), 4);
        due("LIMIT 0", x.other(0, 100, 15), -4);
        due("LIMIT 41", x.other(41, 100, 15), -6);
        IdeaWorks wide = Scene.withIdeas(0xFFFF, 0x3FFF, 0x1FFF);
        Scene.take(wide, 0);
        wide.measure(0, 1, false, 10);
        wide.measure(0, 1, true, 0);
        due("LIKENESS 40 and LIMIT 40", wide.other(40, 100, 100), 10);
    }

    private static void otherMeasuresAllTogether() {
        CHECK.sentence("SAVED .. of a FAMILY: .. (MEASURES of them all together)");
        IdeaWorks x = Scene.withIdeas(0b011, 0b111);
        x.set(0, 40);
        Scene.take(x, 0);
        Scene.take(x, 1);
        x.measure(0, 0, false, 90);
        x.measure(0, 1, true, 40);
        due("apart: no MEASURES of both kinds", x.other(6, 100, 1000), 0);
        due("together", x.other(5, 100, 1000), 50);
        x.measure(0, 0, true, 80);
        x.measure(0, 1, false, 60);
        due("apart: 10 and 20", x.other(6, 100, 1000), 30);
        due("together: 60 less 80, in doubt", x.other(5, 100, 1000), 0);
    }

    private static void otherHarmAddedUp() {
        CHECK.sentence("HARM of a FAMILY: the sum of what is told of its IDEAS");
        IdeaWorks x = Scene.withIdeas(0b011, 0b111);
        Scene.save(x, 50);
        Scene.take(x, 0);
        x.harm(0, 20);
        x.harm(1, 29);
        due("1 is left", x.other(5, 100, 1000), 1);
        due("apart", x.other(6, 100, 1000), 30);
        x.harm(1, 30);
        due("nothing is left", x.other(5, 100, 1000), 0);
        x.harm(1, 31);
        due("0 at least", x.other(5, 100, 1000), 0);
    }

    private static void otherHeadsTeamsRulesAside() {
        CHECK.sentence("what all TAKEN FAMILIES would be paid a YEAR now (HEADS, TEAMS aside)");
        IdeaWorks x = Scene.withIdeas(3, 3, 3, 3);
        Scene.save(x, 101);
        Scene.take(x, 0);
        x.team(0, 1);
        due("without a RULE in force", x.ruleOf(0), -9);
        due("whole, not by SHARES", x.other(4, 100, 1000), 101);
        x.rule(0, 0, 0, 1);
        due("not by the RULE in force", x.other(4, 100, 1000), 101);
        x.set(1, 0);
        due("not by HEADS", x.other(4, 100, 1000), 101);
        x.days(3000);
        due("YEARS aside", x.other(4, 100, 1000), 101);
        due("nothing was paid", x.count(9), 0);
    }

    private static void otherTheMost() {
        CHECK.sentence("OTHER RULES: .. the sum of PAY over FAMILIES");
        IdeaWorks x = Scene.withIdeas();
        x.set(0, 40);
        for (int b = 0; b < 10; b++) {
            x.bench(b, 1, 10000);
        }
        for (int i = 0; i < 40; i++) {
            x.idea(0, 0, 1, 0);
            x.measure(i % 10, i, false, 9999);
            x.measure(i % 10, i, true, 0);
            Scene.take(x, i);
        }
        due("40 FAMILIES, 100000 each", x.other(40, 100, 100000), 4000000);
        due("one FAMILY of all", x.other(3, 100, 100000), 100000);
    }

    private static void otherChangesNothing() {
        CHECK.sentence("what all TAKEN FAMILIES would be paid .. with a told LIMIT for FAMILIES in place of LIMIT");
        for (int limit = 1; limit <= 40; limit += 39) {
            IdeaWorks x = Scene.withIdeas(0x0180, 0b0011, 0b0111, 0b1001);
            x.rule(0, 100, 100000, 1);
            x.measure(0, 1, false, 50);
            x.measure(0, 2, true, 0);
            x.measure(1, 0, false, 9);
            x.measure(1, 0, true, 0);
            Scene.take(x, 1);
            Scene.take(x, 0);
            due("LIMIT " + limit, x.other(limit, 100, 100000), limit == 1 ? 59 : 9);
            due("FAMILIES", x.count(5), 3);
            due("the FAMILY", x.family(2), 1);
            due("its WORTH", x.worth(2), 50);
            due("its RULE", x.ruleOf(2), 0);
            due("SHARE of its HEAD", x.share(1), 600);
            due("paid by FAMILIES as they are", x.days(360), 9 + 30 + 20);
            due("paid by the HEAD", x.ideaOf(1, 3), 30);
            due("paid by the other", x.ideaOf(2, 3), 20);
        }
    }
}
