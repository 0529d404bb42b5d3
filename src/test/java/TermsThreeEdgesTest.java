/** Part III of the document's terms: each sentence that names an edge, with a test of its own. */
public final class TermsThreeEdgesTest {
    private static final Check CHECK = new Check();
    private static final int[] OUT_OF_INT = {Scene.LEAST_INT, Scene.GREATEST_INT};

    public static void main(String[] args) {
        benches0To9();
        benchOfAShop();
        units0To10000();
        measures200InAll();
        measuresOfABenchOfItsShop();
        cost0To9999();
        savedWithBothKinds();
        savedLeastLessGreatest();
        savedIfAbove0();
        savedOfAFamilyAtABench();
        hopedCutEach();
        hoped0AtLeast();
        hopedWithoutMeasures();
        harm0To100000();
        harmOfAFamily();
        worthSumOverBenches();
        worthCutAtEachBench();
        worthLessHarm0AtLeast();
        worthTheMost();
        rules20AtMost();
        ruleNowOrLater();
        ruleParts0To100();
        ruleCap0To100000();
        ruleYears1To5();
        inForceTheLatestDayNotBehind();
        inForceOfSeveralTheGreatestNumber();
        inForceByTheHead();
        withoutARuleNothing();
        payCutCapAtMost();
        paidJust360DaysAfter();
        paidUpToYearsTimes();
        paidUpToTheLastDay();
        paidByShareCut();
        paidAsItIsThen();
        paidOnlyTakenOnes();
        paidTheMost();
        CHECK.end("TermsThreeEdgesTest");
    }

    private static void due(String what, long got, long want) {
        CHECK.due(what, got, want);
    }

    private static void benches0To9() {
        CHECK.sentence("BENCHES 0 .. 9");
        IdeaWorks x = Scene.withIdeas(3);
        for (int bench = 0; bench <= 9; bench++) {
            due("measure at " + bench, x.measure(bench, 0, false, bench), bench + 1);
            due("saved at " + bench, x.saved(bench, 0, 0), 0);
            due("units of " + bench, x.bench(bench, 1, bench), 100);
        }
        noBench(x, 10);
        for (int bench : Scene.FAR_OFF) {
            noBench(x, bench);
        }
        for (int bench = 0; bench <= 9; bench++) {
            due("units stay of " + bench, x.bench(bench, 1, 100), bench);
        }
        due("MEASURES", x.count(6), 10);
    }

    private static void noBench(IdeaWorks x, int bench) {
        due("bench " + bench + ", SHOP", x.bench(bench, 0, 0), -1);
        due("bench " + bench + ", UNITS", x.bench(bench, 1, 0), -1);
        due("measure at " + bench, x.measure(bench, 0, false, 1), -1);
        due("saved at " + bench, x.saved(bench, 0, 0), -1);
    }

    private static void benchOfAShop() {
        CHECK.sentence("BENCHES .. each of a SHOP (0 at first)");
        IdeaWorks x = Scene.withHands(0);
        for (int bench = 0; bench <= 9; bench++) {
            due("at first", x.bench(bench, 0, 7), 0);
            due("then", x.bench(bench, 0, bench % 8), 7);
        }
        due("-1", x.bench(9, 0, -1), -1);
        due("8", x.bench(9, 0, 8), -1);
        for (int far : OUT_OF_INT) {
            due("SHOP " + far, x.bench(9, 0, far), -1);
        }
        due("it stays", x.bench(9, 0, 0), 1);
    }

    private static void units0To10000() {
        CHECK.sentence("UNITS a YEAR (0 .. 10000; 100 at first)");
        IdeaWorks x = Scene.withIdeas(3);
        Scene.save(x, 7);
        due("100 at first", x.worth(0), 7);
        due("-1", x.bench(0, 1, -1), -4);
        due("10001", x.bench(0, 1, 10001), -6);
        due("the least int", x.bench(0, 1, Scene.LEAST_INT), -4);
        due("the greatest int", x.bench(0, 1, Scene.GREATEST_INT), -6);
        due("the least", x.bench(0, 1, 0), 100);
        due("no UNITS", x.worth(0), 0);
        due("the greatest", x.bench(0, 1, 10000), 0);
        due("100 times as many", x.worth(0), 700);
        due("8 UNITS, though no SHOP", x.bench(0, 1, 8), 10000);
    }

    private static void measures200InAll() {
        CHECK.sentence("MEASURES (200 in all)");
        IdeaWorks x = Scene.withIdeas(3, 12);
        for (int m = 1; m <= 199; m++) {
            due("how many", x.measure(m % 10, m % 2, m % 4 < 2, 500), m);
        }
        due("none of both kinds is beyond doubt", x.worth(0) + x.worth(1), 0);
        x.measure(0, 0, true, 10000);
        due("a refused one does not count", x.count(6), 199);
        x.bench(0, 0, 1);
        due("for another SHOP", x.measure(0, 0, true, 5), -3);
        x.bench(0, 0, 0);
        due("the last", x.measure(0, 0, false, 499), 200);
        due("one more", x.measure(0, 0, true, 5), -6);
        due("one more at another BENCH", x.measure(9, 1, false, 5), -6);
        due("there are 200", x.count(6), 200);
    }

    private static void measuresOfABenchOfItsShop() {
        CHECK.sentence("MEASURES: of a BENCH (of a SHOP), of a FAMILY (by an IDEA of it)");
        IdeaWorks x = Scene.withHands(0);
        for (int shop = 0; shop <= 7; shop++) {
            x.idea(0, shop, 3, 0);
            x.bench(shop, 0, shop);
        }
        int many = 0;
        for (int bench = 0; bench <= 7; bench++) {
            for (int idea = 0; idea <= 7; idea++) {
                many += bench == idea ? 1 : 0;
                due("IDEA " + idea + " at " + bench, x.measure(bench, idea, true, 1), bench == idea ? many : -3);
            }
        }
    }

    private static void cost0To9999() {
        CHECK.sentence("COST of a unit (0 .. 9999)");
        IdeaWorks x = Scene.withIdeas(3);
        due("-1", x.measure(0, 0, true, -1), -4);
        due("10000", x.measure(0, 0, false, 10000), -6);
        due("the least int", x.measure(0, 0, true, Scene.LEAST_INT), -4);
        due("the greatest int", x.measure(0, 0, false, Scene.GREATEST_INT), -6);
        due("the least", x.measure(0, 0, true, 0), 1);
        due("the greatest", x.measure(0, 0, false, 9999), 2);
        due("SAVED, the most", x.saved(0, 0, 0), 9999);
        due("HOPED, the most", x.saved(0, 0, 1), 9999);
    }

    private static void savedWithBothKinds() {
        CHECK.sentence("SAVED of a FAMILY at a BENCH: with MEASURES of both kinds there: ..");
        IdeaWorks x = Scene.withIdeas(3);
        due("none", x.saved(0, 0, 0), 0);
        x.measure(0, 0, false, 9999);
        due("BEFORE alone", x.saved(0, 0, 0), 0);
        x.measure(1, 0, true, 0);
        due("AFTER at another BENCH", x.saved(0, 0, 0), 0);
        due("AFTER alone", x.saved(1, 0, 0), 0);
        x.measure(0, 0, true, 9998);
        due("both", x.saved(0, 0, 0), 1);
        x.measure(1, 0, false, 1);
        due("both", x.saved(1, 0, 0), 1);
    }

    private static void savedLeastLessGreatest() {
        CHECK.sentence("the least BEFORE less the greatest AFTER");
        IdeaWorks x = Scene.withIdeas(3);
        x.measure(0, 0, false, 100);
        x.measure(0, 0, true, 10);
        x.measure(0, 0, false, 101);
        x.measure(0, 0, true, 9);
        due("a greater BEFORE, a less AFTER", x.saved(0, 0, 0), 90);
        x.measure(0, 0, false, 99);
        due("one less BEFORE", x.saved(0, 0, 0), 89);
        x.measure(0, 0, true, 11);
        due("one more AFTER", x.saved(0, 0, 0), 88);
    }

    private static void savedIfAbove0() {
        CHECK.sentence("if that is above 0, else 0 (beyond doubt)");
        int[] after = {49, 50, 51, 9999};
        int[] saved = {1, 0, 0, 0};
        for (int i = 0; i < after.length; i++) {
            IdeaWorks x = Scene.withIdeas(3);
            x.measure(0, 0, false, 50);
            x.measure(0, 0, true, after[i]);
            due("50 less " + after[i], x.saved(0, 0, 0), saved[i]);
        }
    }

    private static void savedOfAFamilyAtABench() {
        CHECK.sentence("MEASURES .. of a FAMILY (by an IDEA of it)");
        IdeaWorks x = Scene.withIdeas(0b0111, 0b11100, 0b1110, 0xF00);
        x.measure(9, 0, false, 60);
        x.measure(9, 1, true, 20);
        x.measure(9, 3, true, 59);
        due("by others between", x.saved(9, 2, 0), 40);
        due("not of another FAMILY", x.saved(9, 3, 0), 0);
        due("not at another BENCH", x.saved(8, 2, 0), 0);
        x.set(0, 5);
        due("apart", x.saved(9, 0, 0), 0);
        x.set(0, 4);
        due("joined again", x.saved(9, 0, 0), 40);
    }

    private static void hopedCutEach() {
        CHECK.sentence("HOPED: the sums: BEFORE by how many, less AFTER by how many, cut each");
        IdeaWorks x = Scene.withIdeas(3);
        x.measure(0, 0, false, 10);
        x.measure(0, 0, false, 11);
        x.measure(0, 0, true, 1);
        due("10 less 1", x.saved(0, 0, 1), 9);
        x.measure(0, 0, true, 2);
        due("10 less 1, the 3 by 2 cut", x.saved(0, 0, 1), 9);
        x.measure(0, 0, true, 3);
        due("10 less 2", x.saved(0, 0, 1), 8);
        x.measure(0, 0, false, 11);
        due("32 by 3 is 10", x.saved(0, 0, 1), 8);
        x.measure(0, 0, false, 12);
        due("44 by 4 is 11", x.saved(0, 0, 1), 9);
        IdeaWorks most = Scene.withIdeas(3);
        for (int m = 0; m < 199; m++) {
            most.measure(0, 0, false, 9999);
        }
        most.measure(0, 0, true, 9998);
        due("199 of the greatest", most.saved(0, 0, 1), 1);
    }

    private static void hoped0AtLeast() {
        CHECK.sentence("HOPED: .. 0 at least");
        int[] after = {49, 50, 51, 9999};
        int[] hoped = {1, 0, 0, 0};
        for (int i = 0; i < after.length; i++) {
            IdeaWorks x = Scene.withIdeas(3);
            x.measure(0, 0, false, 0);
            x.measure(0, 0, false, 100);
            x.measure(0, 0, true, after[i]);
            due("50 less " + after[i], x.saved(0, 0, 1), hoped[i]);
            due("SAVED is 0", x.saved(0, 0, 0), 0);
        }
    }

    private static void hopedWithoutMeasures() {
        CHECK.sentence("with MEASURES of both kinds there: ..; HOPED: ..");
        IdeaWorks x = Scene.withIdeas(3);
        due("none", x.saved(9, 0, 1), 0);
        x.measure(9, 0, false, 100);
        due("BEFORE alone", x.saved(9, 0, 1), 0);
        x.measure(8, 0, true, 100);
        due("AFTER alone", x.saved(8, 0, 1), 0);
    }

    private static void harm0To100000() {
        CHECK.sentence("HARM (told: coins a YEAR, 0 .. 100000)");
        IdeaWorks x = Scene.withIdeas(3);
        due("-1", x.harm(0, -1), -4);
        due("100001", x.harm(0, 100001), -6);
        due("the least int", x.harm(0, Scene.LEAST_INT), -4);
        due("the greatest int", x.harm(0, Scene.GREATEST_INT), -6);
        due("the greatest", x.harm(0, 100000), 0);
        due("the least", x.harm(0, 0), 100000);
        due("it stays", x.harm(0, 0), 0);
    }

    private static void harmOfAFamily() {
        CHECK.sentence("HARM .. of a FAMILY");
        IdeaWorks x = Scene.withJudges(0);
        for (int i = 0; i < 40; i++) {
            x.idea(0, 0, 3, 0);
            x.harm(i, 100000);
        }
        for (int b = 0; b < 10; b++) {
            x.bench(b, 1, 10000);
            x.measure(b, 39, false, 9999);
            x.measure(b, 39, true, 0);
        }
        due("40 times the greatest HARM", x.worth(0), 9999000 - 4000000);
        due("told anew, not added", x.harm(0, 1), 100000);
        due("less HARM", x.worth(5), 9999000 - 3900001);
        x.set(0, 40);
        due("alone", x.worth(39), 9999000 - 100000);
        due("alone, with nothing", x.worth(5), 0);
    }

    private static void worthSumOverBenches() {
        CHECK.sentence("WORTH a YEAR: the sum over BENCHES of (SAVED times UNITS by 100 ..)");
        IdeaWorks x = Scene.withIdeas(3);
        int sum = 0;
        for (int bench = 0; bench <= 9; bench++) {
            due("so far", x.worth(0), sum);
            x.bench(bench, 1, 100 * (bench + 1));
            x.measure(bench, 0, false, 10 + (1 << bench));
            x.measure(bench, 0, true, 10);
            sum += (1 << bench) * (bench + 1);
        }
        due("of all BENCHES", x.worth(0), sum);
        x.measure(9, 0, true, 9999);
        due("without the last", x.worth(0), sum - 512 * 10);
    }

    private static void worthCutAtEachBench() {
        CHECK.sentence("WORTH a YEAR: .. (SAVED times UNITS by 100, cut)");
        int[] units = {0, 1, 99, 100, 101, 199, 200};
        int[] worth = {0, 0, 0, 1, 1, 1, 2};
        IdeaWorks x = Scene.withIdeas(3);
        Scene.save(x, 1);
        for (int i = 0; i < units.length; i++) {
            x.bench(0, 1, units[i]);
            due("UNITS " + units[i], x.worth(0), worth[i]);
        }
        x.bench(0, 1, 199);
        x.bench(1, 1, 199);
        x.measure(1, 0, false, 1);
        x.measure(1, 0, true, 0);
        due("199 and 199, each cut", x.worth(0), 2);
    }

    private static void worthLessHarm0AtLeast() {
        CHECK.sentence("WORTH a YEAR: .. less HARM, 0 at least");
        IdeaWorks x = Scene.withIdeas(3);
        Scene.save(x, 50);
        int[] harm = {0, 49, 50, 51, 100000};
        int[] worth = {50, 1, 0, 0, 0};
        for (int i = 0; i < harm.length; i++) {
            x.harm(0, harm[i]);
            due("HARM " + harm[i], x.worth(0), worth[i]);
        }
        IdeaWorks none = Scene.withIdeas(3);
        due("nothing, no HARM", none.worth(0), 0);
        none.harm(0, 1);
        due("nothing but HARM", none.worth(0), 0);
    }

    private static void worthTheMost() {
        CHECK.sentence("BENCHES 0 .. 9, .. UNITS .. 10000, .. COST .. 9999");
        IdeaWorks x = Scene.withIdeas(3);
        x.rule(0, 100, 100000, 1);
        for (int b = 0; b < 10; b++) {
            x.bench(b, 1, 10000);
            x.measure(b, 0, false, 9999);
            x.measure(b, 0, true, 0);
        }
        due("the most WORTH", x.worth(0), 9999000);
        Scene.take(x, 0);
        due("by OTHER RULES", x.other(1, 100, 100000), 100000);
        due("paid up to the CAP", x.days(360), 100000);
    }

    private static void rules20AtMost() {
        CHECK.sentence("RULES have numbers from 0 on (20 at most)");
        IdeaWorks x = Scene.withHands(0);
        x.idea(0, 0, 3, 0);
        for (int r = 0; r < 20; r++) {
            due("the next number", x.rule(0, r, r, 1), r);
            due("it is in force", x.ruleOf(0), r);
        }
        due("one more", x.rule(0, 1, 1, 1), -6);
        due("one more, far ahead", x.rule(3000, 1, 1, 1), -6);
        due("there are 20", x.count(7), 20);
        due("the last one is in force", x.ruleOf(0), 19);
    }

    private static void ruleNowOrLater() {
        CHECK.sentence("RULES: .. from a DAY on (now or later)");
        IdeaWorks x = new IdeaWorks();
        due("DAY -1 on DAY 0", x.rule(-1, 0, 0, 1), -4);
        due("the least int", x.rule(Scene.LEAST_INT, 0, 0, 1), -4);
        due("DAY 0 on DAY 0", x.rule(0, 0, 0, 1), 0);
        x.days(1500);
        due("the DAY before", x.rule(1499, 0, 0, 1), -4);
        due("now", x.rule(1500, 0, 0, 1), 1);
        due("the DAY after", x.rule(1501, 0, 0, 1), 2);
        due("the last DAY", x.rule(3000, 0, 0, 1), 3);
        due("above the last DAY", x.rule(3001, 0, 0, 1), -6);
        due("the greatest int", x.rule(Scene.GREATEST_INT, 0, 0, 1), -6);
    }

    private static void ruleParts0To100() {
        CHECK.sentence("PARTS (0 .. 100 hundredths)");
        IdeaWorks x = new IdeaWorks();
        due("-1", x.rule(0, -1, 0, 1), -4);
        due("101", x.rule(0, 101, 0, 1), -6);
        due("the least int", x.rule(0, Scene.LEAST_INT, 0, 1), -4);
        due("the greatest int", x.rule(0, Scene.GREATEST_INT, 0, 1), -6);
        due("the least", x.rule(0, 0, 0, 1), 0);
        due("the greatest", x.rule(0, 100, 0, 1), 1);
        due("PARTS 0", paidBy(1000, 0, 100000), 0);
        due("PARTS 1", paidBy(1000, 1, 100000), 10);
        due("PARTS 99", paidBy(1000, 99, 100000), 990);
        due("PARTS 100", paidBy(1000, 100, 100000), 1000);
    }

    private static void ruleCap0To100000() {
        CHECK.sentence("a CAP (0 .. 100000 coins a YEAR)");
        IdeaWorks x = new IdeaWorks();
        due("-1", x.rule(0, 0, -1, 1), -4);
        due("100001", x.rule(0, 0, 100001, 1), -6);
        due("the least int", x.rule(0, 0, Scene.LEAST_INT, 1), -4);
        due("the greatest int", x.rule(0, 0, Scene.GREATEST_INT, 1), -6);
        due("the least", x.rule(0, 0, 0, 1), 0);
        due("the greatest", x.rule(0, 0, 100000, 1), 1);
        due("CAP 0", paidBy(1000, 100, 0), 0);
    }

    private static void ruleYears1To5() {
        CHECK.sentence("YEARS (1 .. 5)");
        IdeaWorks x = new IdeaWorks();
        due("0", x.rule(0, 0, 0, 0), -4);
        due("6", x.rule(0, 0, 0, 6), -6);
        due("the least int", x.rule(0, 0, 0, Scene.LEAST_INT), -4);
        due("the greatest int", x.rule(0, 0, 0, Scene.GREATEST_INT), -6);
        due("the least", x.rule(0, 0, 0, 1), 0);
        due("the greatest", x.rule(0, 0, 0, 5), 1);
    }

    private static void inForceTheLatestDayNotBehind() {
        CHECK.sentence("In force for a FAMILY: by the DAY of its HEAD: the latest DAY not behind it");
        IdeaWorks x = Scene.withHands(0);
        x.rule(10, 0, 0, 1);
        x.rule(12, 0, 0, 1);
        x.rule(5, 0, 0, 1);
        x.days(4);
        int[] inForce = {-9, 2, 2, 2, 2, 2, 0, 0, 1, 1};
        for (int i = 0; i < inForce.length; i++) {
            x.idea(0, 0, 1, 0);
            due("on DAY " + (4 + i), x.ruleOf(i), inForce[i]);
            x.days(1);
        }
        due("the first one's as DAYS pass", x.ruleOf(0), -9);
        due("the third one's as DAYS pass", x.ruleOf(2), 2);
    }

    private static void inForceOfSeveralTheGreatestNumber() {
        CHECK.sentence("In force for a FAMILY: .. of several the greatest number");
        IdeaWorks x = Scene.withHands(0);
        x.rule(0, 0, 0, 1);
        x.idea(0, 0, 1, 0);
        due("the only one", x.ruleOf(0), 0);
        x.rule(0, 0, 0, 1);
        due("the later of two", x.ruleOf(0), 1);
        x.rule(1, 0, 0, 1);
        due("not one that is behind it", x.ruleOf(0), 1);
        x.rule(0, 0, 0, 1);
        due("the last of three", x.ruleOf(0), 3);
    }

    private static void inForceByTheHead() {
        CHECK.sentence("In force for a FAMILY: by the DAY of its HEAD");
        IdeaWorks x = Scene.withHands(0);
        x.rule(0, 0, 0, 1);
        x.rule(1, 0, 0, 1);
        x.idea(0, 0, 3, 0);
        x.days(1);
        x.idea(0, 0, 3, 9);
        x.idea(0, 0, 12, 9);
        due("by its HEAD's DAY", x.ruleOf(1), 0);
        due("another FAMILY", x.ruleOf(2), 1);
        x.idea(0, 0, 15, 0);
        due("joined, it has another HEAD", x.ruleOf(2), 0);
    }

    /** What an IDEA of that WORTH is paid as its first YEAR ends. */
    private static int paidBy(int worth, int parts, int cap) {
        IdeaWorks x = Scene.withIdeas(3);
        x.rule(0, parts, cap, 1);
        Scene.save(x, worth);
        Scene.take(x, 0);
        return x.days(360);
    }

    private static void withoutARuleNothing() {
        CHECK.sentence("without one: nothing is paid");
        IdeaWorks x = Scene.withIdeas(3);
        x.rule(1, 100, 100000, 5);
        Scene.save(x, 1000);
        Scene.take(x, 0);
        due("none is in force", x.ruleOf(0), -9);
        due("nothing in all YEARS", x.days(3000), 0);
        due("no coins", x.count(9), 0);
        IdeaWorks late = Scene.withIdeas(3);
        Scene.save(late, 1000);
        Scene.take(late, 0);
        due("nothing in the first YEAR", late.days(360), 0);
        late.rule(360, 100, 100000, 5);
        due("nor by a RULE behind it", late.days(360), 0);
    }

    private static void payCutCapAtMost() {
        CHECK.sentence("PAY of a FAMILY: WORTH times PARTS by 100, cut, CAP at most");
        due("no WORTH", paidBy(0, 100, 100000), 0);
        due("99 by 100", paidBy(99, 1, 100000), 0);
        due("100 by 100", paidBy(100, 1, 100000), 1);
        due("199 by 100", paidBy(199, 1, 100000), 1);
        due("7 times 50 by 100", paidBy(7, 50, 100000), 3);
        due("just below the CAP", paidBy(499, 100, 500), 499);
        due("just the CAP", paidBy(500, 100, 500), 500);
        due("just above the CAP", paidBy(501, 100, 500), 500);
        due("CAP 1", paidBy(9999, 100, 1), 1);
    }

    private static void paidJust360DaysAfter() {
        CHECK.sentence("each TAKEN IDEA .. that was TAKEN just 1, 2, .. times 360 DAYS ahead of it .. is PAID");
        IdeaWorks x = Scene.withIdeas(3);
        x.rule(0, 100, 100000, 5);
        Scene.save(x, 11);
        x.days(7);
        Scene.take(x, 0);
        for (int year = 1; year <= 5; year++) {
            due("the DAY before", x.days(359), 0);
            due("that DAY", x.days(1), 11);
            due("by the IDEA", x.ideaOf(0, 3), 11 * year);
            due("to its HAND", x.coins(0, 0), 11 * year);
        }
        IdeaWorks over = Scene.withIdeas(3);
        over.rule(0, 100, 100000, 5);
        Scene.save(over, 11);
        Scene.take(over, 0);
        due("361 DAYS at once", over.days(361), 11);
        due("718 more: up to the DAY before the third YEAR ends", over.days(718), 11);
        due("720 more: two YEARS", over.days(720), 22);
        due("one more: the last YEAR", over.days(1), 11);
    }

    private static void paidUpToYearsTimes() {
        CHECK.sentence("(up to YEARS times)");
        for (int years = 1; years <= 5; years++) {
            IdeaWorks x = Scene.withIdeas(3);
            x.rule(0, 100, 100000, years);
            Scene.save(x, 11);
            Scene.take(x, 0);
            for (int year = 1; year <= 6; year++) {
                due("YEAR " + year + " of " + years, x.days(360), year <= years ? 11 : 0);
            }
            IdeaWorks atOnce = Scene.withIdeas(3);
            atOnce.rule(0, 100, 100000, years);
            Scene.save(atOnce, 11);
            Scene.take(atOnce, 0);
            due("all at once, YEARS " + years, atOnce.days(3000), 11 * years);
            due("by the IDEA", atOnce.ideaOf(0, 3), 11 * years);
        }
    }

    private static void paidUpToTheLastDay() {
        CHECK.sentence("DAYS .. 3000 at most; .. TAKEN just 1, 2, .. times 360 DAYS ahead of it");
        int[] taken = {1199, 1200, 1201, 2639, 2640, 2641};
        int[] times = {5, 5, 4, 1, 1, 0};
        for (int i = 0; i < taken.length; i++) {
            IdeaWorks x = Scene.withIdeas(3);
            x.rule(0, 100, 100000, 5);
            Scene.save(x, 11);
            x.days(taken[i]);
            Scene.take(x, 0);
            due("TAKEN on DAY " + taken[i], x.days(3000 - taken[i]), 11 * times[i]);
        }
    }

    private static void paidByShareCut() {
        CHECK.sentence("is PAID: PAY times its SHARE by 1000, cut");
        int[] worth = {1, 2, 3, 5, 9999};
        int[] heads = {0, 1, 1, 3, 5999};
        int[] others = {0, 0, 1, 2, 3999};
        for (int i = 0; i < worth.length; i++) {
            IdeaWorks x = Scene.withIdeas(3);
            x.hand(5);
            x.idea(3, 0, 3, 0);
            x.rule(0, 100, 100000, 1);
            Scene.save(x, worth[i]);
            Scene.take(x, 1);
            due("both, PAY " + worth[i], x.days(360), heads[i] + others[i]);
            due("600 of PAY " + worth[i], x.ideaOf(0, 3), heads[i]);
            due("400 of PAY " + worth[i], x.ideaOf(1, 3), others[i]);
            due("its HAND", x.coins(3, 0), others[i]);
        }
    }

    private static void paidAsItIsThen() {
        CHECK.sentence("is PAID: .. all as it is then");
        IdeaWorks x = Scene.withIdeas(3);
        Scene.save(x, 100);
        x.rule(0, 100, 100000, 5);
        Scene.take(x, 0);
        due("the first YEAR", x.days(360), 100);
        x.harm(0, 1);
        due("with HARM", x.days(360), 99);
        x.bench(0, 1, 0);
        due("without UNITS", x.days(360), 0);
        x.bench(0, 1, 200);
        x.team(0, 1);
        due("with more UNITS", x.days(360), 199);
        due("and a TEAM", x.coins(1, 0), 99);
        x.measure(0, 0, true, 100);
        due("in doubt", x.days(360), 0);
        due("in all", x.ideaOf(0, 3), 398);
    }

    private static void paidOnlyTakenOnes() {
        CHECK.sentence("As a DAY comes each TAKEN IDEA .. is PAID");
        IdeaWorks x = Scene.withIdeas(3, 3, 3);
        x.rule(0, 100, 100000, 5);
        Scene.save(x, 1000);
        Scene.turnDown(x, 1);
        Scene.take(x, 0);
        x.idea(0, 0, 3, 0);
        due("the HEAD with 601 and another with 133", x.days(360), 734);
        due("the one TURNED DOWN", x.ideaOf(1, 3), 0);
        due("the OPEN one", x.ideaOf(3, 3), 0);
        Scene.turnDown(x, 3);
        due("the next YEAR", x.days(360), 734);
    }

    private static void paidTheMost() {
        CHECK.sentence("IDEAS .. (40 at most), a CAP (.. 100000 ..), YEARS (.. 5), PATIENCE (0 ..), FINE (.. 99)");
        IdeaWorks x = Scene.withIdeas();
        x.set(0, 40);
        x.set(2, 0);
        x.set(3, 99);
        x.rule(0, 100, 100000, 5);
        x.bench(0, 1, 10000);
        for (int i = 0; i < 40; i++) {
            x.idea(0, 0, 1, 0);
            x.measure(0, i, false, 9999);
            x.measure(0, i, true, 0);
        }
        x.days(1200);
        for (int i = 0; i < 40; i++) {
            Scene.take(x, i);
        }
        due("by DELAYS", x.coins(0, 1), 40 * 1200 * 99);
        due("the first YEAR", x.days(360), 4000000);
        due("up to the last DAY", x.days(1440), 16000000);
        due("by PAY", x.coins(0, 0), 20000000);
        due("by one IDEA", x.ideaOf(39, 3), 500000);
        due("in all", x.count(9), 20000000 + 40 * 1200 * 99);
    }
}
