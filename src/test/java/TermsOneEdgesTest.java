/** Part I of the document's terms: each sentence that names an edge, with a test of its own. */
public final class TermsOneEdgesTest {
    private static final Check CHECK = new Check();

    public static void main(String[] args) {
        daysGoOnFrom0To3000();
        allElseGoesOnOnTheLastDay();
        shops0To7();
        handsFrom0Forty();
        kinInTwosTold();
        ideasFrom0Forty();
        marksBits0To15OneAtLeast();
        fields0To9();
        theDayOfNow();
        openAtFirst();
        likenessLeastAndGreatest();
        alikeForOneShopOnly();
        alikeAtLimitOrMore();
        limit1To40();
        familyByOthersBetween();
        familyOfAll();
        headEarliestDay();
        headMoreFields();
        headLeastNumber();
        headOfEachFamily();
        sharesHeads0To1000();
        sharesAlone1000();
        sharesPartedByOneAndFields();
        sharesCutLeftOverToTheHead();
        sharesOfForty();
        teamOthersThanItsOwn();
        teamSixAtMost();
        teamPayPartedCut();
        teamPayAddsUp();
        CHECK.end("TermsOneEdgesTest");
    }

    private static void due(String what, long got, long want) {
        CHECK.due(what, got, want);
    }

    private static void daysGoOnFrom0To3000() {
        CHECK.sentence("DAYS go on from 0 (3000 at most)");
        IdeaWorks x = new IdeaWorks();
        due("the first DAY", x.count(0), 0);
        due("one DAY", x.days(1), 0);
        due("the next DAY", x.count(0), 1);
        due("3000 more are one too many", x.days(3000), -6);
        due("the DAY stays", x.count(0), 1);
        due("2999 more", x.days(2999), 0);
        due("the last DAY", x.count(0), 3000);
        due("one more", x.days(1), -6);
        due("far more", x.days(Scene.GREATEST_INT), -6);
        due("it stays the last DAY", x.count(0), 3000);
        IdeaWorks atOnce = new IdeaWorks();
        due("3001 at once", atOnce.days(3001), -6);
        due("3000 at once", atOnce.days(3000), 0);
        due("the last DAY", atOnce.count(0), 3000);
    }

    private static void allElseGoesOnOnTheLastDay() {
        CHECK.sentence("DAYS go on from 0 (3000 at most)");
        IdeaWorks x = Scene.withIdeas(3, 12);
        x.days(3000);
        due("a HAND", x.hand(7), 3);
        due("an IDEA", x.idea(3, 0, 48, 1), 2);
        due("its DAY", x.ideaOf(2, 1), 3000);
        due("a RULE of that DAY", x.rule(3000, 1, 1, 1), 0);
        due("a RULE of the DAY before", x.rule(2999, 1, 1, 1), -4);
        due("a RULE of the DAY after", x.rule(3001, 1, 1, 1), -6);
        due("the RULE is in force", x.ruleOf(2), 0);
        due("turning down", x.decide(0, false, false, false), 2);
        due("decided on that DAY", x.ideaOf(0, 2), 3000);
        due("a WORK", x.work(0, 3), 0);
        due("reopening", x.reopen(0), 2970);
    }

    private static void shops0To7() {
        CHECK.sentence("SHOPS 0 .. 7");
        IdeaWorks x = new IdeaWorks();
        for (int shop = 0; shop <= 7; shop++) {
            due("hand of SHOP " + shop, x.hand(shop), shop);
            due("idea for SHOP " + shop, x.idea(0, shop, 1, 0), shop);
            due("work for SHOP " + shop, x.work(shop, 1), -9);
            due("bench of SHOP " + shop, x.bench(0, 0, shop), Math.max(0, shop - 1));
        }
        noShop(x, 8);
        for (int shop : Scene.FAR_OFF) {
            noShop(x, shop);
        }
        due("HANDS", x.count(1), 8);
        due("IDEAS", x.count(2), 8);
        due("WORKS", x.count(8), 8);
        due("the BENCH's SHOP", x.bench(0, 0, 0), 7);
    }

    private static void noShop(IdeaWorks x, int shop) {
        due("hand of SHOP " + shop, x.hand(shop), -1);
        due("idea for SHOP " + shop, x.idea(0, shop, 1, 0), -1);
        due("work for SHOP " + shop, x.work(shop, 1), -1);
        due("bench of SHOP " + shop, x.bench(0, 0, shop), -1);
    }

    private static void handsFrom0Forty() {
        CHECK.sentence("HANDS have numbers from 0 on (40 at most)");
        IdeaWorks x = new IdeaWorks();
        for (int h = 0; h < 40; h++) {
            due("there is none yet: " + h, x.judge(h, true), -1);
            due("the next number", x.hand(h % 7), h);
            due("there is one: " + h, x.judge(h, true), 1);
        }
        due("one more", x.hand(0), -6);
        due("and again", x.hand(7), -6);
        due("there are 40", x.count(1), 40);
        due("no HAND 40", x.judge(40, true), -1);
        due("HAND 0 judges still", x.judge(0, true), 0);
        due("the last HAND's IDEA", x.idea(39, 0, 1, 0), 0);
        due("the last HAND may not judge its own", x.may(39, 0), 0);
        due("the last but one may", x.may(38, 0), 1);
        x.kin(38, 39, true);
        due("unless it is KIN", x.may(38, 0), 0);
        due("and no other is: 37", x.may(37, 0), 1);
        due("the last HAND in a TEAM", x.team(x.idea(0, 0, 6, 0), 39), 1);
        due("the last HAND's coins", x.coins(39, 0), 0);
    }

    private static void kinInTwosTold() {
        CHECK.sentence("HANDS .. are KIN in twos (told)");
        IdeaWorks x = Scene.withHands(0, 0, 0);
        due("nobody is KIN at first", x.kin(0, 1, false), 0);
        due("told", x.kin(0, 1, true), 1);
        due("told of the others", x.kin(1, 2, true), 1);
        due("not by one between", x.kin(0, 2, false), 0);
        due("the other way round it is so", x.kin(2, 1, true), 0);
        due("not any more", x.kin(2, 1, false), 1);
        due("the others are KIN still", x.kin(1, 0, true), 0);
    }

    private static void ideasFrom0Forty() {
        CHECK.sentence("IDEAS have numbers from 0 on (40 at most)");
        IdeaWorks x = Scene.withJudges(2);
        for (int i = 0; i < 40; i++) {
            due("there is none yet: " + i, x.family(i), -1);
            due("the next number", x.idea(0, 0, 1 << i % 16, i % 10), i);
            due("there is one: " + i, x.family(i), i);
        }
        due("one more", x.idea(0, 0, 1, 0), -6);
        due("there are 40", x.count(2), 40);
        due("no IDEA 40", x.family(40), -1);
        due("the first one's FIELDS", x.ideaOf(0, 4), 0);
        due("the first one's MARKS", x.ideaOf(0, 5), 1);
        due("the last one's FIELDS", x.ideaOf(39, 4), 9);
        due("the last one's MARKS", x.ideaOf(39, 5), 1 << 7);
        due("the last one is measured", x.measure(9, 39, false, 5), 1);
        due("the last one does harm", x.harm(39, 7), 0);
        due("the last one's TEAM", x.team(39, 1), 1);
        due("the last one, no two JUDGES", x.decide(39, true, true, true), -3);
        due("the last but one is TURNED DOWN", x.decide(38, false, false, false), 2);
        x.set(0, 3);
        due("the last but one is LED BACK", x.work(0, 1 << 6), 38);
    }

    private static void marksBits0To15OneAtLeast() {
        CHECK.sentence("MARKS (a set of bits 0 .. 15, one at least)");
        IdeaWorks x = Scene.withHands(0);
        for (int bit = 0; bit <= 15; bit++) {
            due("bit " + bit, x.idea(0, 0, 1 << bit, 0), bit);
            due("MARKS of bit " + bit, x.ideaOf(bit, 5), 1 << bit);
            due("WORK of bit " + bit, x.work(0, 1 << bit), -9);
        }
        for (int bit = 16; bit <= 31; bit++) {
            due("bit " + bit, x.idea(0, 0, 1 << bit, 0), -1);
            due("bit 0 and " + bit, x.idea(0, 0, 1 | 1 << bit, 0), -1);
            due("WORK of bit " + bit, x.work(0, 1 << bit), -1);
            due("WORK of bit 15 and " + bit, x.work(0, 1 << 15 | 1 << bit), -1);
        }
        for (int none : new int[] {0, -1, -65535, Scene.LEAST_INT, Scene.GREATEST_INT}) {
            due("MARKS " + none, x.idea(0, 0, none, 0), -1);
            due("WORK " + none, x.work(0, none), -1);
        }
        due("all bits", x.idea(0, 0, 65535, 0), 16);
        due("one above all bits", x.idea(0, 0, 65536, 0), -1);
        due("WORK of all bits", x.work(0, 65535), -9);
        due("WORKS", x.count(8), 17);
    }

    private static void fields0To9() {
        CHECK.sentence("FIELDS that are filled in (0 .. 9)");
        IdeaWorks x = Scene.withHands(0);
        for (int fields = 0; fields <= 9; fields++) {
            due("FIELDS " + fields, x.idea(0, 0, 1, fields), fields);
            due("told back", x.ideaOf(fields, 4), fields);
        }
        due("FIELDS -1", x.idea(0, 0, 1, -1), -4);
        due("FIELDS 10", x.idea(0, 0, 1, 10), -6);
        due("the least int", x.idea(0, 0, 1, Scene.LEAST_INT), -4);
        due("the greatest int", x.idea(0, 0, 1, Scene.GREATEST_INT), -6);
        due("IDEAS", x.count(2), 10);
    }

    private static void theDayOfNow() {
        CHECK.sentence("IDEAS .. the DAY of now");
        IdeaWorks x = Scene.withHands(0);
        x.idea(0, 0, 1, 0);
        x.days(1);
        x.idea(0, 0, 1, 0);
        x.days(2999);
        x.idea(0, 0, 1, 0);
        due("the first DAY", x.ideaOf(0, 1), 0);
        due("the next", x.ideaOf(1, 1), 1);
        due("the last", x.ideaOf(2, 1), 3000);
    }

    private static void openAtFirst() {
        CHECK.sentence("OPEN (0), TAKEN (1), TURNED DOWN (2)");
        IdeaWorks x = Scene.withIdeas(1, 2, 4);
        due("OPEN", x.ideaOf(0, 0), 0);
        Scene.take(x, 1);
        Scene.turnDown(x, 2);
        due("OPEN still", x.ideaOf(0, 0), 0);
        due("TAKEN", x.ideaOf(1, 0), 1);
        due("TURNED DOWN", x.ideaOf(2, 0), 2);
    }

    private static void likenessLeastAndGreatest() {
        CHECK.sentence("LIKENESS of two sets of MARKS: 3 for each in both, less 1 for each in just one of them");
        IdeaWorks x = Scene.withIdeas(0x00FF, 0xFF00, 0xFFFF, 0x8000, 0x0001, 0x0F00, 0x8700);
        due("the least: no mark in both, 16 in one", x.like(0, 1), 1000 - 16);
        due("the greatest: 16 in both", x.like(2, 2), 1000 + 48);
        due("one in both, 15 in one", x.like(2, 3), 1000 + 3 - 15);
        due("one each, not the same", x.like(3, 4), 1000 - 2);
        due("one each, the same", x.like(4, 4), 1000 + 3);
        due("the last bit in both", x.like(3, 6), 1000 + 3 - 3);
        due("three in both, one each", x.like(5, 6), 1000 + 9 - 2);
        due("just 0", x.like(6, 3), 1000);
    }

    private static void alikeForOneShopOnly() {
        CHECK.sentence("Two IDEAS are ALIKE if they are for one SHOP");
        IdeaWorks x = Scene.withHands(0);
        for (int shop = 0; shop <= 7; shop++) {
            x.idea(0, shop, 65535, 0);
        }
        due("the same in all SHOPS", x.count(5), 8);
        due("with LIMIT 1, too", x.set(0, 1) + x.count(5), 4 + 8);
        x.idea(0, 7, 65535, 0);
        due("one more in the last SHOP", x.family(8), 7);
    }

    private static void alikeAtLimitOrMore() {
        CHECK.sentence("their LIKENESS is LIMIT (.. 4 at first) or more");
        IdeaWorks at = Scene.withIdeas(0b0111, 0b1110);
        due("LIKENESS 4", at.like(0, 1), 1004);
        due("ALIKE", at.family(1), 0);
        IdeaWorks below = Scene.withIdeas(0b001, 0b001);
        due("LIKENESS 3", below.like(0, 1), 1003);
        due("not ALIKE", below.family(1), 1);
        IdeaWorks above = Scene.withIdeas(0b011, 0b111);
        due("LIKENESS 5", above.like(0, 1), 1005);
        due("ALIKE", above.family(1), 0);
        for (int limit = 1; limit <= 40; limit++) {
            above.set(0, limit);
            due("LIKENESS 5 with LIMIT " + limit, above.family(1), limit <= 5 ? 0 : 1);
        }
        due("back again", above.set(0, 5) + above.family(1), 40);
    }

    private static void limit1To40() {
        CHECK.sentence("LIMIT (1 .. 40; 4 at first)");
        IdeaWorks x = Scene.withIdeas(0xFFFF, 0x3FFF, 0x1FFF, 0x1FFF, 0x4001, 0x8001, 0x9001);
        due("0", x.set(0, 0), -4);
        due("the least", x.set(0, 1), 4);
        due("LIKENESS 1 and LIMIT 1", x.like(4, 5) + x.family(5), 1001 + 4);
        due("41", x.set(0, 41), -6);
        due("the greatest", x.set(0, 40), 1);
        due("LIKENESS 40 and LIMIT 40", x.like(0, 1) + x.family(1), 1040);
        due("LIKENESS 39 and LIMIT 40", x.like(2, 3) + x.family(3), 1039 + 3);
        due("the least int", x.set(0, Scene.LEAST_INT), -4);
        due("the greatest int", x.set(0, Scene.GREATEST_INT), -6);
        due("it stays", x.set(0, 4), 40);
        IdeaWorks apart = Scene.withIdeas(0b0001, 0b1111);
        apart.set(0, 1);
        due("LIKENESS 0 and LIMIT 1", apart.like(0, 1) + apart.family(1), 1000 + 1);
    }

    private static void familyByOthersBetween() {
        CHECK.sentence("a FAMILY: IDEAS that are ALIKE, or by others between");
        IdeaWorks x = Scene.withIdeas(7, 7 << 13);
        due("the ends are not ALIKE", x.count(5), 2);
        for (int shift = 12; shift >= 1; shift--) {
            due("apart still", x.family(1), 1);
            x.idea(0, 0, 7 << shift, 0);
        }
        for (int i = 0; i < 14; i++) {
            due("by twelve others between: " + i, x.family(i), 0);
        }
        due("one FAMILY", x.count(5), 1);
        x.set(0, 5);
        due("no two are ALIKE now", x.count(5), 14);
        x.set(0, 4);
        due("all are again", x.family(1), 0);
    }

    private static void familyOfAll() {
        CHECK.sentence("a FAMILY: IDEAS that are ALIKE, or by others between");
        IdeaWorks x = Scene.withHands(0);
        for (int i = 0; i < 40; i++) {
            x.idea(0, 0, 7 << 13 - i % 14, 0);
        }
        due("40 in one FAMILY", x.count(5), 1);
        due("the least of it", x.family(39), 0);
        x.set(0, 40);
        due("40 FAMILIES", x.count(5), 40);
        due("each alone", x.family(39), 39);
    }

    private static void headEarliestDay() {
        CHECK.sentence("HEAD of a FAMILY: the earliest DAY");
        IdeaWorks x = Scene.withHands(0);
        x.idea(0, 0, 3, 0);
        x.days(1);
        x.idea(0, 0, 3, 9);
        due("one DAY earlier, with no FIELDS", x.head(1), 0);
        x.idea(0, 0, 12, 5);
        x.days(2999);
        x.idea(0, 0, 15, 9);
        due("the one between is the last", x.head(2), 0);
        due("its own HEAD", x.head(3), 0);
        IdeaWorks decided = Scene.withJudges(2);
        decided.days(1);
        decided.idea(0, 0, 3, 0);
        decided.days(1);
        decided.idea(0, 0, 3, 9);
        due("both OPEN", decided.head(0), 0);
        decided.days(1);
        Scene.turnDown(decided, 0);
        due("by when it came, not by when it was decided", decided.head(1), 0);
    }

    private static void headMoreFields() {
        CHECK.sentence("HEAD of a FAMILY: .. of one DAY the more FIELDS");
        IdeaWorks x = Scene.withHands(0);
        x.idea(0, 0, 3, 0);
        for (int fields = 1; fields <= 9; fields++) {
            x.idea(0, 0, 3, fields);
            due("one more FIELD", x.head(0), fields);
        }
        x.idea(0, 0, 3, 8);
        due("one fewer", x.head(0), 9);
    }

    private static void headLeastNumber() {
        CHECK.sentence("HEAD of a FAMILY: .. then the least number");
        IdeaWorks x = Scene.withHands(0);
        x.idea(0, 0, 3, 1);
        x.idea(0, 0, 3, 4);
        x.idea(0, 0, 3, 4);
        due("the less of two", x.head(0), 1);
        due("the other's HEAD", x.head(2), 1);
        x.set(0, 40);
        due("alone it is its own HEAD", x.head(2), 2);
    }

    private static void headOfEachFamily() {
        CHECK.sentence("HEAD of a FAMILY");
        IdeaWorks x = Scene.withHands(0);
        x.idea(0, 0, 3, 9);
        x.idea(0, 1, 3, 5);
        x.idea(0, 1, 3, 6);
        x.idea(0, 7, 3, 0);
        x.idea(0, 7, 3, 1);
        due("of the second SHOP", x.head(1), 2);
        due("of the last SHOP", x.head(3), 4);
        x.other(40, 0, 0);
        due("not as by OTHER RULES", x.head(1), 2);
        due("nor of the last SHOP", x.head(3), 4);
    }

    private static void sharesHeads0To1000() {
        CHECK.sentence("its HEAD has HEADS (0 .. 1000; 600 at first)");
        IdeaWorks x = Scene.withIdeas(3, 3);
        due("at first", x.share(0), 600);
        due("the other", x.share(1), 400);
        due("-1", x.set(1, -1), -4);
        due("1001", x.set(1, 1001), -6);
        due("the least int", x.set(1, Scene.LEAST_INT), -4);
        due("the greatest int", x.set(1, Scene.GREATEST_INT), -6);
        due("it stays", x.share(0), 600);
        due("to 0", x.set(1, 0), 600);
        due("the HEAD has nothing", x.share(0), 0);
        due("the other has all", x.share(1), 1000);
        due("to 1", x.set(1, 1), 0);
        due("the HEAD", x.share(0), 1);
        due("the other", x.share(1), 999);
        due("to 999", x.set(1, 999), 1);
        due("the other", x.share(1), 1);
        due("to 1000", x.set(1, 1000), 999);
        due("the HEAD has all", x.share(0), 1000);
        due("the other has nothing", x.share(1), 0);
    }

    private static void sharesAlone1000() {
        CHECK.sentence("SHARES of a FAMILY: .. alone in it 1000");
        IdeaWorks x = Scene.withIdeas(3);
        for (int heads : new int[] {0, 1, 600, 999, 1000}) {
            x.set(1, heads);
            due("alone, HEADS " + heads, x.share(0), 1000);
        }
        x.set(1, 0);
        x.idea(0, 0, 3, 0);
        due("not alone any more", x.share(0), 0);
        x.set(0, 7);
        due("alone again", x.share(0), 1000);
        due("the other, too", x.share(1), 1000);
    }

    private static void sharesPartedByOneAndFields() {
        CHECK.sentence("the rest is parted among the others by (1 and FIELDS)");
        IdeaWorks x = Scene.withHands(0);
        x.idea(0, 0, 3, 9);
        x.days(1);
        x.idea(0, 0, 3, 0);
        x.idea(0, 0, 3, 9);
        due("no FIELDS counts 1 of 11", x.share(1), 36);
        due("9 FIELDS count 10 of 11", x.share(2), 363);
        due("the HEAD's own FIELDS do not count", x.share(0), 1000 - 36 - 363);
    }

    private static void sharesCutLeftOverToTheHead() {
        CHECK.sentence("each cut, what is left over goes to the HEAD");
        IdeaWorks x = Scene.withIdeas(3, 3, 3, 3);
        due("400 by 3", x.share(3), 133);
        due("one is left over", x.share(0), 601);
        x.set(1, 999);
        due("1 by 3", x.share(1), 0);
        due("one is left over", x.share(0), 1000);
        x.set(1, 997);
        due("3 by 3", x.share(1), 1);
        due("nothing is left over", x.share(0), 997);
        x.set(1, 998);
        due("2 by 3", x.share(2), 0);
        due("two are left over", x.share(0), 1000);
    }

    private static void sharesOfForty() {
        CHECK.sentence("each cut, what is left over goes to the HEAD");
        IdeaWorks x = Scene.withHands(0);
        x.set(1, 0);
        for (int i = 0; i < 40; i++) {
            x.idea(0, 0, 3, 0);
        }
        due("1000 by 39", x.share(39), 25);
        due("25 are left over", x.share(0), 25);
        int all = 0;
        for (int i = 0; i < 40; i++) {
            all += x.share(i);
        }
        due("all SHARES", all, 1000);
    }

    private static void teamOthersThanItsOwn() {
        CHECK.sentence("a HAND may be told to be in one TEAM with an IDEA (others than its own HAND ..)");
        IdeaWorks x = Scene.withHands(0, 0, 0);
        x.idea(1, 0, 3, 0);
        x.idea(2, 0, 3, 0);
        due("its own", x.team(0, 1), -3);
        due("another", x.team(0, 0), 1);
        due("another once more", x.team(0, 0), -3);
        due("the FAMILY's other HAND", x.team(0, 2), 2);
        due("in two TEAMS", x.team(1, 0), 1);
        due("each IDEA has its own TEAM", x.team(1, 1), 2);
    }

    private static void teamSixAtMost() {
        CHECK.sentence("TEAMS: .. 6 at most");
        IdeaWorks x = new IdeaWorks();
        for (int h = 0; h < 40; h++) {
            x.hand(1);
        }
        x.idea(0, 0, 3, 0);
        x.idea(0, 0, 12, 0);
        for (int h = 1; h <= 6; h++) {
            due("how many", x.team(0, 40 - h), h);
        }
        due("one more", x.team(0, 1), -6);
        due("one that is in it", x.team(0, 39), -3);
        due("its own", x.team(0, 0), -3);
        x.judge(1, true);
        due("who was refused is not in it", x.may(1, 0), 1);
        due("another IDEA's TEAM has room", x.team(1, 1), 1);
    }

    private static void teamPayPartedCut() {
        CHECK.sentence("its pay is parted evenly among its HAND and these, cut, what is left over to its HAND");
        int[] pays = {0, 1, 6, 7, 8, 13, 14};
        for (int pay : pays) {
            IdeaWorks x = new IdeaWorks();
            for (int h = 0; h < 9; h++) {
                x.hand(1);
            }
            x.judge(0, true);
            x.judge(1, true);
            x.rule(0, 100, 100000, 1);
            x.idea(8, 0, 3, 0);
            for (int h = 2; h <= 7; h++) {
                x.team(0, h);
            }
            Scene.save(x, pay);
            Scene.take(x, 0);
            due("paid", x.days(360), pay);
            for (int h = 2; h <= 7; h++) {
                due(pay + " by 7", x.coins(h, 0), pay / 7);
            }
            due("its HAND of " + pay, x.coins(8, 0), pay - pay / 7 * 6);
            due("nobody else", x.coins(0, 0) + x.coins(1, 0), 0);
        }
    }

    private static void teamPayAddsUp() {
        CHECK.sentence("its pay is parted evenly among its HAND and these");
        IdeaWorks x = Scene.withHands(1, 1, 1, 1);
        x.judge(2, true);
        x.judge(3, true);
        x.rule(0, 100, 100000, 2);
        x.idea(1, 0, 3, 0);
        x.idea(1, 0, 12, 0);
        x.team(0, 0);
        x.team(1, 0);
        Scene.save(x, 11);
        x.measure(1, 1, false, 7);
        x.measure(1, 1, true, 0);
        Scene.take(x, 0);
        Scene.take(x, 1);
        due("two IDEAS", x.days(360), 18);
        due("HAND 0 is in both TEAMS: 5 and 3", x.coins(0, 0), 8);
        due("their HAND: 6 and 4", x.coins(1, 0), 10);
        due("two YEARS", x.days(360), 18);
        due("HAND 0, twice", x.coins(0, 0), 16);
        due("their HAND, twice", x.coins(1, 0), 20);
    }
}
