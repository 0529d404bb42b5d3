/** Promises 16 to 22: BENCHES, MEASURES, SAVED, HARM, WORTH and RULES. */
public final class WorthTest {
    private static final Check CHECK = new Check();

    public static void main(String[] args) {
        promise16Bench();
        promise17Measure();
        promise17Room();
        promise18Saved();
        promise18Family();
        promise19Harm();
        promise20Worth();
        promise21Rule();
        promise21Room();
        promise22RuleOf();
        CHECK.end("WorthTest");
    }

    private static void due(String what, long got, long want) {
        CHECK.due(what, got, want);
    }

    private static IdeaWorks withIdeas(int... marks) {
        IdeaWorks x = new IdeaWorks();
        x.hand(0);
        for (int m : marks) {
            x.idea(0, 0, m, 0);
        }
        return x;
    }

    private static void promise16Bench() {
        IdeaWorks x = new IdeaWorks();
        due("16: shop", x.bench(9, 0, 7), 0);
        due("16: what it was", x.bench(9, 0, 1), 7);
        due("16: units", x.bench(9, 1, 0), 100);
        due("16: units", x.bench(9, 1, 10000), 0);
        due("16: what it was", x.bench(9, 1, 5), 10000);
        due("16: another bench", x.bench(8, 1, 100), 100);
        due("16: bench below", x.bench(-1, 0, 0), -1);
        due("16: bench above", x.bench(10, 1, 0), -1);
        due("16: shop below", x.bench(0, 0, -1), -1);
        due("16: shop above", x.bench(0, 0, 8), -1);
        due("16: what 2", x.bench(0, 2, -1), -2);
        due("16: what -1", x.bench(0, -1, 20000), -2);
        due("16: -1 ahead of -2", x.bench(10, 2, 0), -1);
        due("16: units below", x.bench(0, 1, -1), -4);
        due("16: units above", x.bench(0, 1, 10001), -6);
        due("16: nothing changed", x.bench(0, 1, 100), 100);
        due("16: nothing changed", x.bench(0, 0, 0), 0);
    }

    private static void promise17Measure() {
        IdeaWorks x = withIdeas(1);
        due("17: how many", x.measure(0, 0, true, 0), 1);
        due("17: how many", x.measure(9, 0, false, 9999), 2);
        due("17: bench below", x.measure(-1, 0, true, 0), -1);
        due("17: bench above", x.measure(10, 0, true, 0), -1);
        due("17: idea below", x.measure(0, -1, true, 0), -1);
        due("17: idea above", x.measure(0, 1, true, 0), -1);
        due("17: cost below", x.measure(0, 0, true, -1), -4);
        due("17: cost above", x.measure(0, 0, true, 10000), -6);
        x.bench(3, 0, 4);
        due("17: another shop", x.measure(3, 0, true, 5), -3);
        due("17: -3 ahead of -4", x.measure(3, 0, true, -1), -3);
        due("17: -3 ahead of -6", x.measure(3, 0, true, 10000), -3);
        due("17: measures", x.count(6), 2);
    }

    private static void promise17Room() {
        IdeaWorks x = withIdeas(1);
        for (int m = 1; m <= 200; m++) {
            due("17: how many", x.measure(m % 10, 0, m % 20 < 10, m), m);
        }
        due("17: no room", x.measure(0, 0, true, 0), -6);
        due("17: -4 ahead of -6", x.measure(0, 0, true, -1), -4);
        x.bench(0, 0, 1);
        due("17: -3 ahead of -6", x.measure(0, 0, true, 0), -3);
        due("17: measures", x.count(6), 200);
        due("17: the last one counts", x.saved(0, 0, 0), 0);
    }

    private static void promise18Saved() {
        IdeaWorks x = withIdeas(1);
        due("18: none", x.saved(0, 0, 0), 0);
        due("18: none hoped", x.saved(0, 0, 1), 0);
        x.measure(0, 0, false, 80);
        due("18: before alone", x.saved(0, 0, 0), 0);
        due("18: before alone, hoped", x.saved(0, 0, 1), 0);
        x.measure(0, 0, true, 30);
        due("18: both", x.saved(0, 0, 0), 50);
        x.measure(0, 0, false, 75);
        x.measure(0, 0, true, 41);
        due("18: the least less the greatest", x.saved(0, 0, 0), 34);
        due("18: 77 less 35, cut each", x.saved(0, 0, 1), 42);
        x.measure(0, 0, true, 76);
        due("18: in doubt", x.saved(0, 0, 0), 0);
        due("18: hoped", x.saved(0, 0, 1), 28);
        x.measure(0, 0, true, 9999);
        due("18: hoped, 0 at least", x.saved(0, 0, 1), 0);
        x.measure(1, 0, true, 10);
        due("18: after alone", x.saved(1, 0, 0), 0);
        due("18: after alone, hoped", x.saved(1, 0, 1), 0);
        due("18: bench below", x.saved(-1, 0, 0), -1);
        due("18: bench above", x.saved(10, 0, 0), -1);
        due("18: idea below", x.saved(0, -1, 0), -1);
        due("18: idea above", x.saved(0, 1, 0), -1);
        due("18: what 2", x.saved(0, 0, 2), -2);
        due("18: what -1", x.saved(0, 0, -1), -2);
        due("18: -1 ahead of -2", x.saved(0, 1, 2), -1);
    }

    private static void promise18Family() {
        IdeaWorks x = withIdeas(3, 3, 12);
        x.measure(2, 0, false, 60);
        x.measure(2, 1, true, 20);
        x.measure(2, 2, false, 9);
        x.measure(2, 2, true, 2);
        due("18: of a family", x.saved(2, 1, 0), 40);
        due("18: of another family", x.saved(2, 2, 0), 7);
        x.bench(2, 0, 5);
        due("18: what was measured stays", x.saved(2, 0, 0), 40);
        x.set(0, 40);
        due("18: apart", x.saved(2, 0, 0), 0);
        due("18: apart", x.saved(2, 1, 1), 0);
    }

    private static void promise19Harm() {
        IdeaWorks x = withIdeas(3, 3);
        due("19: what it was", x.harm(0, 100000), 0);
        due("19: what it was", x.harm(0, 3), 100000);
        due("19: of another idea", x.harm(1, 0), 0);
        due("19: below", x.harm(0, -1), -4);
        due("19: above", x.harm(0, 100001), -6);
        due("19: nothing changed", x.harm(0, 0), 3);
        due("19: no idea", x.harm(2, 0), -1);
        due("19: idea below", x.harm(-1, -1), -1);
    }

    private static void promise20Worth() {
        IdeaWorks x = withIdeas(3, 3);
        due("20: nothing", x.worth(0), 0);
        x.measure(0, 0, false, 17);
        x.measure(0, 0, true, 10);
        x.bench(0, 1, 99);
        due("20: cut", x.worth(1), 6);
        x.measure(9, 1, false, 100);
        x.measure(9, 1, true, 1);
        x.bench(9, 1, 99);
        due("20: each bench is cut", x.worth(0), 6 + 98);
        x.harm(0, 3);
        x.harm(1, 1);
        due("20: less the harm of both", x.worth(0), 100);
        x.harm(1, 5000);
        due("20: 0 at least", x.worth(0), 0);
        due("20: below", x.worth(-1), -1);
        due("20: above", x.worth(2), -1);
        IdeaWorks most = withIdeas(3);
        for (int b = 0; b < 10; b++) {
            most.bench(b, 1, 10000);
            most.measure(b, 0, false, 9999);
            most.measure(b, 0, true, 0);
        }
        due("20: the most", most.worth(0), 9999000);
    }

    private static void promise21Rule() {
        IdeaWorks x = new IdeaWorks();
        x.days(10);
        due("21: number", x.rule(10, 0, 0, 1), 0);
        due("21: number", x.rule(3000, 100, 100000, 5), 1);
        due("21: a day gone by", x.rule(9, 0, 0, 1), -4);
        due("21: parts below", x.rule(10, -1, 0, 1), -4);
        due("21: cap below", x.rule(10, 0, -1, 1), -4);
        due("21: years below", x.rule(10, 0, 0, 0), -4);
        due("21: day above", x.rule(3001, 0, 0, 1), -6);
        due("21: parts above", x.rule(10, 101, 0, 1), -6);
        due("21: cap above", x.rule(10, 0, 100001, 1), -6);
        due("21: years above", x.rule(10, 0, 0, 6), -6);
        due("21: -4 ahead of -6", x.rule(3001, 101, 100001, 0), -4);
        due("21: rules", x.count(7), 2);
    }

    private static void promise21Room() {
        IdeaWorks x = new IdeaWorks();
        for (int r = 0; r < 20; r++) {
            due("21: number", x.rule(r, 0, 0, 1), r);
        }
        due("21: no room", x.rule(0, 0, 0, 1), -6);
        due("21: -4 ahead of -6", x.rule(0, 0, 0, 0), -4);
        due("21: rules", x.count(7), 20);
    }

    private static void promise22RuleOf() {
        IdeaWorks x = withIdeas(3);
        due("22: none", x.ruleOf(0), -9);
        x.rule(5, 1, 1, 1);
        due("22: not yet", x.ruleOf(0), -9);
        x.rule(20, 1, 1, 1);
        x.rule(5, 1, 1, 1);
        x.rule(3, 1, 1, 1);
        x.days(5);
        x.idea(0, 1, 3, 0);
        due("22: the latest, of several the greatest", x.ruleOf(1), 2);
        x.idea(0, 0, 3, 9);
        due("22: by the head's day", x.ruleOf(2), -9);
        x.set(0, 40);
        due("22: alone", x.ruleOf(2), 2);
        x.days(15);
        x.idea(0, 2, 3, 0);
        due("22: by day 20", x.ruleOf(3), 1);
        due("22: the day of now does not count", x.ruleOf(1), 2);
        due("22: below", x.ruleOf(-1), -1);
        due("22: above", x.ruleOf(4), -1);
        due("22: none is no refusal", x.count(11), 2);
    }
}
