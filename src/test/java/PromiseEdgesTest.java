import java.util.function.IntUnaryOperator;

/** Promises 1 to 29: each edge that a promise names, each refusal, the first of several, and that nothing changes. */
public final class PromiseEdgesTest {
    private static final Check CHECK = new Check();

    public static void main(String[] args) {
        promise1();
        promise2();
        promise3();
        promise4();
        promise4Room();
        promise5();
        promise6();
        promise7();
        promises8To10();
        promise11();
        promise12();
        promise13();
        promise14();
        promise14Refused();
        promise15();
        promise16();
        promise17();
        promise18();
        promise19();
        promise20();
        promise21();
        promise21Room();
        promise22();
        promise23();
        promise24();
        promise25();
        promise26();
        promise27();
        promise28();
        promise29();
        promise29Refusals();
        CHECK.end("PromiseEdgesTest");
    }

    private static void due(String what, long got, long want) {
        CHECK.due(what, got, want);
    }

    /** No number of anything there is: `many` itself, and numbers far off. */
    private static void dueNobody(String what, int many, IntUnaryOperator call) {
        due(what + " " + many, call.applyAsInt(many), -1);
        for (int far : Scene.FAR_OFF) {
            due(what + " " + far, call.applyAsInt(far), -1);
        }
    }

    private static void dueRange(String what, int least, int greatest, IntUnaryOperator call) {
        due(what + " one below", call.applyAsInt(least - 1), -4);
        due(what + " the least int", call.applyAsInt(Scene.LEAST_INT), -4);
        due(what + " one above", call.applyAsInt(greatest + 1), -6);
        due(what + " the greatest int", call.applyAsInt(Scene.GREATEST_INT), -6);
    }

    /** `what` is none from 0 to greatest. */
    private static void dueWhat(String call, int greatest, IntUnaryOperator ask) {
        for (int what : new int[] {Scene.LEAST_INT, -2, -1, greatest + 1, greatest + 2, 256, Scene.GREATEST_INT}) {
            due(call + " what " + what, ask.applyAsInt(what), -2);
        }
    }

    private static void promise1() {
        CHECK.sentence("1: DAY 0; nobody, no IDEAS");
        IdeaWorks x = new IdeaWorks();
        due("DAY", x.count(0), 0);
        for (int what = 1; what <= 9; what++) {
            due("none of what " + what, x.count(what), 0);
        }
        due("nobody judges", x.judge(0, true), -1);
        due("nobody has coins", x.coins(0, 0), -1);
        due("nobody tells an IDEA", x.idea(0, 0, 1, 0), -1);
        due("no IDEA to decide", x.decide(0, true, true, true), -1);
        due("no IDEA to reopen", x.reopen(0), -1);
        due("no IDEA to measure", x.measure(0, 0, true, 0), -1);
        due("no WORK", x.ledBack(0), -9);
        due("no FAMILY would be paid", x.other(1, 100, 100000), 0);
        due("refused", Scene.refusals(x), 6);
        due("another new object", Scene.refusals(new IdeaWorks()), 0);
    }

    private static void promise2() {
        CHECK.sentence("2: hand: A HAND: its number. -1; -6 there are 40");
        IdeaWorks x = new IdeaWorks();
        dueNobody("SHOP", 8, x::hand);
        due("there is none", x.count(1), 0);
        for (int h = 0; h < 40; h++) {
            due("its number", x.hand(7 - h % 8), h);
        }
        due("a SHOP and no room", x.hand(0), -6);
        due("no SHOP and no room", x.hand(8), -1);
        due("no SHOP and no room", x.hand(-1), -1);
        due("there are 40", x.count(1), 40);
        due("REFUSALS -6", x.count(16), 1);
    }

    private static void promise3() {
        CHECK.sentence("3: kin: Two HANDS are KIN, or not: 1; 0 if it was so. -1 (also if they are one)");
        IdeaWorks x = Scene.withHands(0, 1, 2);
        dueNobody("a", 3, a -> x.kin(a, 0, true));
        dueNobody("b", 3, b -> x.kin(0, b, true));
        dueNobody("both", 3, both -> x.kin(both, both, true));
        for (int h = 0; h < 3; h++) {
            due("one HAND, on", x.kin(h, h, true), -1);
            due("one HAND, off", x.kin(h, h, false), -1);
        }
        due("not, and it was so", x.kin(0, 2, false), 0);
        due("on", x.kin(0, 2, true), 1);
        due("on, and it was so", x.kin(2, 0, true), 0);
        due("off", x.kin(2, 0, false), 1);
        due("off, and it was so", x.kin(0, 2, false), 0);
    }

    private static void promise4() {
        CHECK.sentence("4: idea: An IDEA: its number. -1 (HAND, SHOP, MARKS: none, others); -4; -6 (40, too)");
        IdeaWorks x = Scene.withHands(0);
        dueNobody("HAND", 1, hand -> x.idea(hand, 0, 1, 0));
        dueNobody("SHOP", 8, shop -> x.idea(0, shop, 1, 0));
        due("no MARKS", x.idea(0, 0, 0, 0), -1);
        due("other MARKS", x.idea(0, 0, 65536, 0), -1);
        due("all MARKS and another", x.idea(0, 0, 131071, 0), -1);
        due("the least int", x.idea(0, 0, Scene.LEAST_INT, 0), -1);
        due("all bits", x.idea(0, 0, -1, 0), -1);
        dueRange("FIELDS", 0, 9, fields -> x.idea(0, 0, 1, fields));
        due("-1 and -4", x.idea(1, 0, 1, -1), -1);
        due("-1 and -4", x.idea(0, 8, 1, -1), -1);
        due("-1 and -4", x.idea(0, 0, 0, -1), -1);
        due("-1 and -6", x.idea(-1, 0, 1, 10), -1);
        due("-1 and -6", x.idea(0, -1, 1, 10), -1);
        due("-1 and -6", x.idea(0, 0, 65536, 10), -1);
        due("nothing came", x.count(2), 0);
        due("the first number", x.idea(0, 0, 1, 0), 0);
    }

    private static void promise4Room() {
        CHECK.sentence("4: idea: .. -6 (40, too)");
        IdeaWorks x = Scene.withHands(0);
        for (int i = 0; i < 40; i++) {
            due("its number", x.idea(0, i % 8, 3, 0), i);
        }
        due("no room", x.idea(0, 0, 3, 9), -6);
        due("no room, and FIELDS above", x.idea(0, 0, 3, 10), -6);
        due("no room, and FIELDS below", x.idea(0, 0, 3, -1), -4);
        due("no room, and no MARKS", x.idea(0, 0, 0, 0), -1);
        due("FAMILIES stay", x.count(5), 8);
        due("HEADS stay", x.head(32), 0);
        due("there are 40", x.count(2), 40);
    }

    private static void promise5() {
        CHECK.sentence("5: team: how many are (its own HAND aside). -1; -3 it is its own, or in it; -6 there are 6");
        IdeaWorks x = Scene.withHands(0, 1, 2, 3, 4, 5, 6, 7);
        x.idea(7, 0, 3, 0);
        dueNobody("IDEA", 1, idea -> x.team(idea, 0));
        dueNobody("HAND", 8, hand -> x.team(0, hand));
        due("its own", x.team(0, 7), -3);
        for (int h = 0; h < 6; h++) {
            due("how many", x.team(0, h), h + 1);
            due("in it", x.team(0, h), -3);
        }
        due("there are 6", x.team(0, 6), -6);
        due("in it, and there are 6", x.team(0, 0), -3);
        due("its own, and there are 6", x.team(0, 7), -3);
        due("no HAND, and there are 6", x.team(0, 8), -1);
        due("no IDEA, and its own", x.team(1, 7), -1);
    }

    private static void promise6() {
        CHECK.sentence("6: set: LIMIT (what 0), HEADS (1), PATIENCE (2), FINE (3): what it was. -2; -4; -6");
        IdeaWorks x = Scene.withIdeas(3, 3);
        dueRange("LIMIT", 1, 40, v -> x.set(0, v));
        dueRange("HEADS", 0, 1000, v -> x.set(1, v));
        dueRange("PATIENCE", 0, 100, v -> x.set(2, v));
        dueRange("FINE", 0, 99, v -> x.set(3, v));
        dueWhat("set", 3, what -> x.set(what, 1));
        due("-2 and -4", x.set(4, -1), -2);
        due("-2 and -6", x.set(-1, 1001), -2);
        due("FAMILIES stay", x.count(5), 1);
        due("SHARES stay", x.share(0), 600);
        due("LIMIT was", x.set(0, 6), 4);
        due("HEADS was", x.set(1, 1), 600);
        due("PATIENCE was", x.set(2, 2), 30);
        due("FINE was", x.set(3, 3), 1);
        due("LIMIT was", x.set(0, 6), 6);
        due("HEADS was", x.set(1, 1), 1);
        due("PATIENCE was", x.set(2, 2), 2);
        due("FINE was", x.set(3, 3), 3);
    }

    private static void promise7() {
        CHECK.sentence("7: like: LIKENESS of two IDEAS (may be below 0: 1000 is added). -1");
        IdeaWorks x = Scene.withIdeas(0x00FF, 0xFF00);
        x.idea(0, 7, 0x00FF, 0);
        dueNobody("a", 3, a -> x.like(a, 0));
        dueNobody("b", 3, b -> x.like(0, b));
        dueNobody("both", 3, both -> x.like(both, both));
        due("below 0", x.like(0, 1), 984);
        due("above 0", x.like(0, 0), 1024);
        due("for two SHOPS", x.like(0, 2), 1024);
    }

    private static void promises8To10() {
        CHECK.sentence("8, 9, 10: family: The least IDEA of a FAMILY; head: HEAD; share: SHARE. -1");
        IdeaWorks x = Scene.withIdeas(3, 12);
        dueNobody("family", 2, x::family);
        dueNobody("head", 2, x::head);
        dueNobody("share", 2, x::share);
        due("alone: family", x.family(1), 1);
        due("alone: head", x.head(1), 1);
        due("alone: share", x.share(1), 1000);
        x.idea(0, 0, 15, 9);
        due("the last is the HEAD: family", x.family(2), 0);
        due("the last is the HEAD: head", x.head(0), 2);
        due("the last is the HEAD: share", x.share(2), 600);
        due("the others: share", x.share(0) + x.share(1), 400);
        due("the next is none", x.family(3), -1);
    }

    private static void promise11() {
        CHECK.sentence("11: judge: A HAND judges, or not any more: 1; 0 if it was so. -1");
        IdeaWorks x = Scene.withHands(0, 1);
        dueNobody("HAND, on", 2, hand -> x.judge(hand, true));
        dueNobody("HAND, off", 2, hand -> x.judge(hand, false));
        due("off, and it was so", x.judge(1, false), 0);
        due("on", x.judge(1, true), 1);
        due("on, and it was so", x.judge(1, true), 0);
        due("the other does not", x.judge(0, false), 0);
        due("off", x.judge(1, false), 1);
        due("off, and it was so", x.judge(1, false), 0);
    }

    private static void promise12() {
        CHECK.sentence("12: may: 1, 0 (also who judges nothing). -1");
        IdeaWorks x = Scene.withIdeas(3);
        x.hand(1);
        dueNobody("HAND", 4, hand -> x.may(hand, 0));
        dueNobody("IDEA", 1, idea -> x.may(0, idea));
        due("may", x.may(1, 0), 1);
        due("judges nothing", x.may(3, 0), 0);
        due("of a decided IDEA", x.decide(0, true, true, true) + x.may(1, 0), 2);
    }

    private static void promise13() {
        CHECK.sentence("13: judgeOf: JUDGE i (0, 1) ..; -9 for both if there are no two. -1 (i, too)");
        IdeaWorks x = Scene.withIdeas(3);
        dueNobody("IDEA", 1, idea -> x.judgeOf(idea, 0));
        dueNobody("i", 2, i -> x.judgeOf(0, i));
        due("0", x.judgeOf(0, 0), 1);
        due("1", x.judgeOf(0, 1), 2);
        x.judge(2, false);
        due("0, of one", x.judgeOf(0, 0), -9);
        due("1, of one", x.judgeOf(0, 1), -9);
        due("i 2, of one", x.judgeOf(0, 2), -1);
        x.judge(1, false);
        due("0, of none", x.judgeOf(0, 0), -9);
        due("1, of none", x.judgeOf(0, 1), -9);
        due("-9 is not refused", Scene.refusals(x), 27);
    }

    private static void promise14() {
        CHECK.sentence("14: decide: .. what the IDEA is then (1, 2)");
        for (int votes = 0; votes < 8; votes++) {
            boolean one = (votes & 1) != 0;
            boolean two = (votes & 2) != 0;
            boolean third = (votes & 4) != 0;
            for (int judges = 2; judges <= 3; judges++) {
                IdeaWorks x = Scene.withJudges(judges);
                x.idea(0, 0, 3, 0);
                boolean yes = one && two || one != two && judges == 3 && third;
                due(judges + " judges, votes " + votes, x.decide(0, one, two, third), yes ? 1 : 2);
                due("what it is", x.ideaOf(0, 0), yes ? 1 : 2);
            }
        }
    }

    private static void promise14Refused() {
        CHECK.sentence("14: decide: .. -1; -3 it is not OPEN, or there are no two");
        IdeaWorks x = Scene.withIdeas(3, 12, 48);
        x.set(2, 0);
        x.days(1);
        dueNobody("IDEA", 3, idea -> x.decide(idea, true, true, true));
        Scene.take(x, 0);
        Scene.turnDown(x, 1);
        due("TAKEN", x.decide(0, false, false, false), -3);
        due("TURNED DOWN", x.decide(1, true, true, true), -3);
        x.judge(1, false);
        due("OPEN, one judges", x.decide(2, true, true, true), -3);
        due("TAKEN, one judges", x.decide(0, true, true, true), -3);
        x.judge(2, false);
        due("OPEN, none judges", x.decide(2, true, true, true), -3);
        due("it is OPEN still", x.ideaOf(2, 0), 0);
        due("it is not decided", x.ideaOf(2, 2), -9);
        due("TAKEN still", x.ideaOf(0, 0), 1);
        due("TURNED DOWN still", x.ideaOf(1, 0), 2);
        due("DELAY of the two decided ones", x.coins(0, 1), 2);
        due("REFUSALS -3", x.count(13), 5);
    }

    private static void promise15() {
        CHECK.sentence("15: days: n DAYS pass: coins that were PAID as YEARS ended. -4 below 1; -6 above 3000 in all");
        IdeaWorks x = Scene.withIdeas(3);
        x.rule(0, 100, 100000, 5);
        Scene.save(x, 5);
        Scene.take(x, 0);
        due("359", x.days(359), 0);
        dueRange("from 359", 1, 2641, x::days);
        due("0 to the year's end pays nothing", x.count(9), 0);
        due("1", x.days(1), 5);
        dueRange("from 360", 1, 2640, x::days);
        due("the DAY", x.count(0), 360);
        due("all that is left: four YEARS more", x.days(2640), 20);
        due("no more: 1", x.days(1), -6);
        due("no more: 0", x.days(0), -4);
        due("the DAY", x.count(0), 3000);
        due("in all", x.count(9), 25);
    }

    private static void promise16() {
        CHECK.sentence("16: bench: what it was. -1 (SHOP, too); -2; -4; -6");
        IdeaWorks x = new IdeaWorks();
        dueNobody("BENCH, SHOP", 10, bench -> x.bench(bench, 0, 0));
        dueNobody("BENCH, UNITS", 10, bench -> x.bench(bench, 1, 0));
        dueNobody("SHOP", 8, shop -> x.bench(9, 0, shop));
        dueWhat("bench", 1, what -> x.bench(9, what, 1));
        dueRange("UNITS", 0, 10000, units -> x.bench(9, 1, units));
        due("-1 and -2", x.bench(10, 2, 0), -1);
        due("-1 and -4", x.bench(10, 1, -1), -1);
        due("-1 and -6", x.bench(-1, 1, 10001), -1);
        due("-2 and -4", x.bench(0, 2, -1), -2);
        due("-2 and -6", x.bench(0, -1, 10001), -2);
        due("SHOP was", x.bench(9, 0, 7), 0);
        due("UNITS was", x.bench(9, 1, 10000), 100);
        due("SHOP was", x.bench(9, 0, 0), 7);
        due("UNITS was", x.bench(9, 1, 0), 10000);
        due("UNITS was", x.bench(9, 1, 0), 0);
    }

    private static void promise17() {
        CHECK.sentence("17: measure: how many there are. -1; -3 ..; -4; -6 (200, too)");
        IdeaWorks x = Scene.withIdeas(3);
        x.bench(9, 0, 1);
        dueNobody("BENCH", 10, bench -> x.measure(bench, 0, true, 0));
        dueNobody("IDEA", 1, idea -> x.measure(0, idea, true, 0));
        dueRange("COST", 0, 9999, cost -> x.measure(0, 0, true, cost));
        due("another SHOP", x.measure(9, 0, true, 0), -3);
        due("-1 and -3", x.measure(9, 1, true, 0), -1);
        due("-1 and -4", x.measure(10, 0, true, -1), -1);
        due("-1 and -6", x.measure(-1, 0, true, 10000), -1);
        due("-3 and -4", x.measure(9, 0, true, -1), -3);
        due("-3 and -6", x.measure(9, 0, true, 10000), -3);
        due("there is none", x.count(6), 0);
        for (int m = 1; m <= 200; m++) {
            due("how many", x.measure(0, 0, false, 9999), m);
        }
        due("no room", x.measure(0, 0, true, 0), -6);
        due("no room, COST above", x.measure(0, 0, true, 10000), -6);
        due("no room, COST below", x.measure(0, 0, true, -1), -4);
        due("no room, another SHOP", x.measure(9, 0, true, 0), -3);
        due("no room, no BENCH", x.measure(10, 0, true, 0), -1);
        due("no AFTER was measured", x.saved(0, 0, 0), 0);
        due("there are 200", x.count(6), 200);
    }

    private static void promise18() {
        CHECK.sentence("18: saved: SAVED (what 0), HOPED (1) of an IDEA's FAMILY at a BENCH. -1; -2");
        IdeaWorks x = Scene.withIdeas(3);
        x.measure(9, 0, false, 7);
        x.measure(9, 0, false, 9);
        x.measure(9, 0, true, 0);
        x.measure(9, 0, true, 1);
        dueNobody("BENCH", 10, bench -> x.saved(bench, 0, 0));
        dueNobody("IDEA", 1, idea -> x.saved(9, idea, 0));
        dueWhat("saved", 1, what -> x.saved(9, 0, what));
        due("-1 and -2", x.saved(10, 0, 2), -1);
        due("-1 and -2", x.saved(0, 1, -1), -1);
        due("SAVED", x.saved(9, 0, 0), 6);
        due("HOPED", x.saved(9, 0, 1), 8);
        x.bench(9, 0, 7);
        due("of a BENCH that is of another SHOP now", x.saved(9, 0, 0), 6);
    }

    private static void promise19() {
        CHECK.sentence("19: harm: HARM of an IDEA (added up over a FAMILY): what it was. -1; -4; -6");
        IdeaWorks x = Scene.withIdeas(3, 3);
        Scene.save(x, 9);
        dueNobody("IDEA", 2, idea -> x.harm(idea, 1));
        dueRange("coins", 0, 100000, coins -> x.harm(1, coins));
        due("-1 and -4", x.harm(2, -1), -1);
        due("-1 and -6", x.harm(-1, 100001), -1);
        due("no HARM", x.worth(0), 9);
        due("what it was", x.harm(1, 2), 0);
        due("of the other", x.harm(0, 1), 0);
        due("added up", x.worth(1), 6);
        due("what it was", x.harm(1, 100000), 2);
        due("what it was", x.harm(1, 0), 100000);
        due("taken off", x.worth(1), 8);
    }

    private static void promise20() {
        CHECK.sentence("20: worth: WORTH of an IDEA's FAMILY. -1");
        IdeaWorks x = Scene.withIdeas(3, 3);
        dueNobody("IDEA", 2, x::worth);
        due("nothing", x.worth(0), 0);
        Scene.save(x, 1);
        due("the least", x.worth(1), 1);
    }

    private static void promise21() {
        CHECK.sentence("21: rule: A RULE: its number. -4 (DAY ahead of now, too); -6 (DAY above 3000, 20, too)");
        IdeaWorks x = new IdeaWorks();
        x.days(100);
        dueRange("DAY", 100, 3000, day -> x.rule(day, 0, 0, 1));
        dueRange("PARTS", 0, 100, parts -> x.rule(100, parts, 0, 1));
        dueRange("CAP", 0, 100000, cap -> x.rule(100, 0, cap, 1));
        dueRange("YEARS", 1, 5, years -> x.rule(100, 0, 0, years));
        due("DAY 0", x.rule(0, 0, 0, 1), -4);
        due("-4 and -6: DAY, PARTS", x.rule(99, 101, 0, 1), -4);
        due("-4 and -6: PARTS, DAY", x.rule(3001, -1, 0, 1), -4);
        due("-4 and -6: CAP, DAY", x.rule(3001, 0, -1, 1), -4);
        due("-4 and -6: YEARS, DAY", x.rule(3001, 0, 0, 0), -4);
        due("-4 and -6: YEARS, CAP", x.rule(100, 0, 100001, 0), -4);
        due("there is none", x.count(7), 0);
        due("the least of all", x.rule(100, 0, 0, 1), 0);
        due("the greatest of all", x.rule(3000, 100, 100000, 5), 1);
    }

    private static void promise21Room() {
        CHECK.sentence("21: rule: .. -6 (.. 20, too)");
        IdeaWorks x = Scene.withHands(0);
        x.idea(0, 0, 3, 0);
        for (int r = 0; r < 20; r++) {
            due("its number", x.rule(0, 0, 0, 1), r);
        }
        x.days(1);
        due("no room", x.rule(1, 0, 0, 1), -6);
        due("no room, and a DAY gone by", x.rule(0, 0, 0, 1), -4);
        due("no room, and YEARS below", x.rule(1, 0, 0, 0), -4);
        due("no room, and YEARS above", x.rule(1, 0, 0, 6), -6);
        due("there are 20", x.count(7), 20);
        due("the last is in force", x.ruleOf(0), 19);
    }

    private static void promise22() {
        CHECK.sentence("22: ruleOf: The RULE in force for an IDEA's FAMILY; -9 none. -1");
        IdeaWorks x = Scene.withIdeas(3);
        dueNobody("IDEA", 1, x::ruleOf);
        due("none", x.ruleOf(0), -9);
        x.rule(1, 0, 0, 1);
        due("none yet", x.ruleOf(0), -9);
        x.rule(0, 0, 0, 1);
        due("one", x.ruleOf(0), 1);
        due("-9 is not refused", Scene.refusals(x), 13);
    }

    private static void promise23() {
        CHECK.sentence("23: work: A WORK is done: the IDEA that is LED BACK; -9 none. -1 (MARKS, too); -6 there are 20");
        IdeaWorks x = Scene.withIdeas(15);
        Scene.turnDown(x, 0);
        dueNobody("SHOP", 8, shop -> x.work(shop, 15));
        dueNobody("MARKS", 0, marks -> x.work(0, marks == 64 || marks == 256 ? 65536 + marks : marks));
        due("none was done", x.count(8), 0);
        for (int w = 0; w < 20; w++) {
            due("LED BACK or none", x.work(0, w % 2 == 0 ? 15 : 0xF0), w % 2 == 0 ? 0 : -9);
        }
        due("no room", x.work(0, 15), -6);
        due("no room, no SHOP", x.work(8, 15), -1);
        due("no room, no MARKS", x.work(0, 0), -1);
        due("there are 20", x.count(8), 20);
    }

    private static void promise24() {
        CHECK.sentence("24: ledBack: The IDEA LED BACK by WORK i, as it was found; -9 none, or there is no such WORK");
        IdeaWorks x = Scene.withIdeas(15);
        due("no WORK", x.ledBack(0), -9);
        Scene.turnDown(x, 0);
        for (int w = 0; w < 20; w++) {
            due("not yet", x.ledBack(w), -9);
            x.work(0, w % 3 == 0 ? 15 : 0xF0);
            due("WORK " + w, x.ledBack(w), w % 3 == 0 ? 0 : -9);
        }
        due("no WORK 20", x.ledBack(20), -9);
        for (int far : Scene.FAR_OFF) {
            due("no WORK " + far, x.ledBack(far), -9);
        }
        x.reopen(0);
        due("as it was found", x.ledBack(0), 0);
        due("it is never refused", Scene.refusals(x), 0);
    }

    private static void promise25() {
        CHECK.sentence("25: reopen: .. LED BACK by some WORK, and is TURNED DOWN still ..: coins of DELAY. -1; -3");
        IdeaWorks x = Scene.withIdeas(15, 0xF0);
        x.set(2, 0);
        x.days(1);
        due("OPEN", x.reopen(0), -3);
        Scene.turnDown(x, 0);
        Scene.turnDown(x, 1);
        due("not LED BACK", x.reopen(0), -3);
        x.work(0, 15);
        due("the other is not LED BACK", x.reopen(1), -3);
        dueNobody("IDEA", 2, x::reopen);
        due("TURNED DOWN still", x.count(4), 2);
        due("DELAY of two, no more", x.coins(0, 1), 2);
        due("coins of DELAY", x.reopen(0), 1);
        due("TAKEN", x.reopen(0), -3);
        due("DELAY of three", x.coins(0, 1), 3);
        due("REFUSALS -3", x.count(13), 4);
    }

    private static void promise26() {
        CHECK.sentence("26: other: OTHER RULES: the sum. -4; -6 (LIMIT 1 .. 40, PARTS, CAP)");
        IdeaWorks x = Scene.withIdeas(3);
        Scene.save(x, 5);
        Scene.take(x, 0);
        dueRange("LIMIT", 1, 40, limit -> x.other(limit, 0, 0));
        dueRange("PARTS", 0, 100, parts -> x.other(1, parts, 0));
        dueRange("CAP", 0, 100000, cap -> x.other(1, 0, cap));
        due("-4 and -6: LIMIT, PARTS", x.other(0, 101, 0), -4);
        due("-4 and -6: LIMIT, CAP", x.other(0, 0, 100001), -4);
        due("-4 and -6: PARTS, LIMIT", x.other(41, -1, 0), -4);
        due("-4 and -6: CAP, LIMIT", x.other(41, 0, -1), -4);
        due("-4 and -6: CAP, PARTS", x.other(1, 101, -1), -4);
        due("the least of all", x.other(1, 0, 0), 0);
        due("the greatest of all", x.other(40, 100, 100000), 5);
        due("nothing is set", x.set(0, 4), 4);
    }

    private static void promise27() {
        CHECK.sentence("27: coins: Coins of a HAND: what 0 by PAY, 1 by DELAYS. -1; -2");
        IdeaWorks x = Scene.withIdeas(3);
        dueNobody("HAND", 3, hand -> x.coins(hand, 0));
        dueWhat("coins", 1, what -> x.coins(0, what));
        due("-1 and -2", x.coins(3, 2), -1);
        due("-1 and -2", x.coins(-1, -1), -1);
        due("none by PAY", x.coins(2, 0), 0);
        due("none by DELAYS", x.coins(2, 1), 0);
    }

    private static void promise28() {
        CHECK.sentence("28: ideaOf: 0 what it is, 1 the DAY ..., 2 .. decided (-9), 3 coins, 4 FIELDS, 5 MARKS. -1; -2");
        IdeaWorks x = Scene.withJudges(2);
        x.days(1);
        x.idea(0, 0, 0x8000, 9);
        dueNobody("IDEA", 1, idea -> x.ideaOf(idea, 0));
        dueWhat("ideaOf", 5, what -> x.ideaOf(0, what));
        due("-1 and -2", x.ideaOf(1, 6), -1);
        due("-1 and -2", x.ideaOf(-1, -1), -1);
        int[] open = {0, 1, -9, 0, 9, 0x8000};
        for (int what = 0; what <= 5; what++) {
            due("OPEN, what " + what, x.ideaOf(0, what), open[what]);
        }
        due("-9 is not refused", Scene.refusals(x), 13 + 7 + 2);
        Scene.turnDown(x, 0);
        due("decided on the DAY on which it came", x.ideaOf(0, 2), 1);
        IdeaWorks first = Scene.withIdeas(3);
        Scene.take(first, 0);
        due("decided on DAY 0", first.ideaOf(0, 2), 0);
    }

    private static void promise29() {
        CHECK.sentence("29: count: 0 DAY, .. 9 coins in all, 11 .. 16 REFUSALS -1 .. -6. -9 for another what");
        IdeaWorks x = Story.ofNoRoom().tell();
        int[] full = {3, 40, 40, 1, 2, 40, 200, 20, 20, 0};
        for (int what = 0; what <= 9; what++) {
            due("no room, what " + what, x.count(what), full[what]);
        }
        for (int what = 11; what <= 16; what++) {
            due("no REFUSALS, what " + what, x.count(what), 0);
        }
        due("what 10", x.count(10), -9);
        due("what 17", x.count(17), -9);
        for (int far : Scene.FAR_OFF) {
            due("what " + far, x.count(far), -9);
        }
        due("it is never refused", Scene.refusals(x), 0);
    }

    private static void promise29Refusals() {
        CHECK.sentence("29: count: .. 11 .. 16 REFUSALS -1 .. -6");
        IdeaWorks x = Scene.withIdeas(3);
        int[] many = {1, 2, 3, 4, 0, 5};
        x.hand(8);
        for (int n = 0; n < 2; n++) {
            x.set(4, 0);
        }
        for (int n = 0; n < 3; n++) {
            x.reopen(0);
        }
        for (int n = 0; n < 4; n++) {
            x.days(0);
        }
        for (int n = 0; n < 5; n++) {
            x.days(3001);
        }
        for (int i = 0; i < many.length; i++) {
            due("REFUSALS -" + (i + 1), x.count(11 + i), many[i]);
        }
    }
}
