/** Promises 1 to 10: a new object, HANDS, KIN, IDEAS, TEAMS, settings, FAMILIES, HEADS, SHARES. */
public final class HandsAndIdeasTest {
    private static final Check CHECK = new Check();

    public static void main(String[] args) {
        promise1NewObject();
        promise2Hand();
        promise3Kin();
        promise4Idea();
        promise4Room();
        promise5Team();
        promise6Set();
        promise7Like();
        promise8Family();
        promise8JoinedLater();
        promise9Head();
        promise10Share();
        CHECK.end("HandsAndIdeasTest");
    }

    private static void due(String what, long got, long want) {
        CHECK.due(what, got, want);
    }

    private static IdeaWorks withHands(int... shops) {
        IdeaWorks x = new IdeaWorks();
        for (int shop : shops) {
            x.hand(shop);
        }
        return x;
    }

    private static void promise1NewObject() {
        IdeaWorks x = new IdeaWorks();
        for (int what = 0; what <= 9; what++) {
            due("1: new count " + what, x.count(what), 0);
        }
        for (int what = 11; what <= 16; what++) {
            due("1: new count " + what, x.count(what), 0);
        }
        due("1: nobody", x.judge(0, true), -1);
        due("1: no idea", x.family(0), -1);
        due("1: LIMIT at first", x.set(0, 4), 4);
        due("1: HEADS at first", x.set(1, 600), 600);
        due("1: PATIENCE at first", x.set(2, 30), 30);
        due("1: FINE at first", x.set(3, 1), 1);
        for (int bench = 0; bench < 10; bench++) {
            due("1: SHOP of a new bench", x.bench(bench, 0, 0), 0);
            due("1: UNITS of a new bench", x.bench(bench, 1, 100), 100);
        }
        due("1: another object is on its own", new IdeaWorks().count(11), 0);
    }

    private static void promise2Hand() {
        IdeaWorks x = new IdeaWorks();
        due("2: shop -1", x.hand(-1), -1);
        due("2: shop 8", x.hand(8), -1);
        for (int h = 0; h < 40; h++) {
            due("2: number", x.hand(h % 8), h);
        }
        due("2: no room", x.hand(0), -6);
        due("2: -1 ahead of -6", x.hand(8), -1);
        due("2: hands", x.count(1), 40);
        due("2: refusals -1", x.count(11), 3);
        due("2: refusals -6", x.count(16), 1);
        due("2: the last one is there", x.judge(39, true), 1);
    }

    private static void promise3Kin() {
        IdeaWorks x = withHands(0, 1, 2);
        due("3: kin", x.kin(0, 1, true), 1);
        due("3: it was so", x.kin(0, 1, true), 0);
        due("3: both ways", x.kin(1, 0, true), 0);
        due("3: not through others", x.kin(1, 2, false), 0);
        due("3: not any more", x.kin(1, 0, false), 1);
        due("3: not any more, it was so", x.kin(0, 1, false), 0);
        due("3: one hand", x.kin(1, 1, true), -1);
        due("3: one hand, off", x.kin(1, 1, false), -1);
        due("3: a below", x.kin(-1, 0, true), -1);
        due("3: a above", x.kin(3, 0, true), -1);
        due("3: b below", x.kin(0, -1, true), -1);
        due("3: b above", x.kin(0, 3, true), -1);
    }

    private static void promise4Idea() {
        IdeaWorks x = withHands(0);
        x.days(7);
        due("4: number", x.idea(0, 7, 1, 0), 0);
        due("4: number", x.idea(0, 0, 65535, 9), 1);
        due("4: open", x.ideaOf(1, 0), 0);
        due("4: came", x.ideaOf(1, 1), 7);
        due("4: fields", x.ideaOf(1, 4), 9);
        due("4: marks", x.ideaOf(1, 5), 65535);
        due("4: hand below", x.idea(-1, 0, 1, 0), -1);
        due("4: hand above", x.idea(1, 0, 1, 0), -1);
        due("4: shop below", x.idea(0, -1, 1, 0), -1);
        due("4: shop above", x.idea(0, 8, 1, 0), -1);
        due("4: no marks", x.idea(0, 0, 0, 0), -1);
        due("4: mark 16", x.idea(0, 0, 65537, 0), -1);
        due("4: mark 31", x.idea(0, 0, -2147483647, 0), -1);
        due("4: fields below", x.idea(0, 0, 1, -1), -4);
        due("4: fields above", x.idea(0, 0, 1, 10), -6);
        due("4: -1 ahead of -4", x.idea(0, 0, 0, -1), -1);
        due("4: -1 ahead of -6", x.idea(0, 8, 1, 10), -1);
        due("4: ideas", x.count(2), 2);
    }

    private static void promise4Room() {
        IdeaWorks x = withHands(0);
        for (int i = 0; i < 40; i++) {
            due("4: number", x.idea(0, 0, 1, 0), i);
        }
        due("4: no room", x.idea(0, 0, 1, 0), -6);
        due("4: -4 ahead of -6", x.idea(0, 0, 1, -1), -4);
        due("4: -1 ahead of -6", x.idea(1, 0, 1, 0), -1);
        due("4: ideas", x.count(2), 40);
        due("4: the last one", x.family(39), 39);
    }

    private static void promise5Team() {
        IdeaWorks x = withHands(0, 0, 0, 0, 0, 0, 0, 0);
        x.idea(1, 0, 1, 0);
        due("5: its own", x.team(0, 1), -3);
        int many = 0;
        for (int h = 0; h < 7; h++) {
            if (h != 1) {
                many++;
                due("5: how many", x.team(0, h), many);
            }
        }
        due("5: no room", x.team(0, 7), -6);
        due("5: -3 ahead of -6", x.team(0, 6), -3);
        due("5: its own ahead of -6", x.team(0, 1), -3);
        due("5: no idea", x.team(1, 0), -1);
        due("5: idea below", x.team(-1, 0), -1);
        due("5: no hand", x.team(0, 8), -1);
        due("5: hand below", x.team(0, -1), -1);
        x.idea(7, 0, 1, 0);
        due("5: another idea's team", x.team(1, 1), 1);
    }

    private static void promise6Set() {
        IdeaWorks x = new IdeaWorks();
        int[] first = {4, 600, 30, 1};
        int[] least = {1, 0, 0, 0};
        int[] greatest = {40, 1000, 100, 99};
        for (int what = 0; what < 4; what++) {
            due("6: to the least", x.set(what, least[what]), first[what]);
            due("6: below", x.set(what, least[what] - 1), -4);
            due("6: above", x.set(what, greatest[what] + 1), -6);
            due("6: to the greatest", x.set(what, greatest[what]), least[what]);
            due("6: what it was", x.set(what, first[what]), greatest[what]);
        }
        due("6: what 4", x.set(4, -1), -2);
        due("6: what -1", x.set(-1, 5000), -2);
        due("6: refusals -2", x.count(12), 2);
        due("6: refusals -4", x.count(14), 4);
        due("6: refusals -6", x.count(16), 4);
    }

    private static void promise7Like() {
        IdeaWorks x = withHands(0);
        x.idea(0, 0, 7, 0);
        x.idea(0, 1, 14, 0);
        x.idea(0, 0, 0xFFF8, 0);
        x.idea(0, 0, 65535, 0);
        due("7: two in both, two in one", x.like(0, 1), 1004);
        due("7: the other way", x.like(1, 0), 1004);
        due("7: none in both", x.like(0, 2), 984);
        due("7: with itself", x.like(3, 3), 1048);
        due("7: a part", x.like(3, 0), 996);
        due("7: a below", x.like(-1, 0), -1);
        due("7: a above", x.like(4, 0), -1);
        due("7: b below", x.like(0, -1), -1);
        due("7: b above", x.like(0, 4), -1);
    }

    private static void promise8Family() {
        IdeaWorks x = withHands(0);
        x.idea(0, 0, 0x0003, 0);
        x.idea(0, 1, 0x0003, 0);
        x.idea(0, 0, 0x000F, 0);
        x.idea(0, 0, 0x0007, 0);
        due("8: LIKENESS just at LIMIT", x.family(2), 0);
        due("8: another shop", x.family(1), 1);
        due("8: like", x.family(3), 0);
        due("8: families", x.count(5), 2);
        x.set(0, 5);
        due("8: by one between", x.family(2), 0);
        x.set(0, 6);
        due("8: below LIMIT", x.family(0), 0);
        due("8: below LIMIT", x.family(3), 2);
        due("8: families", x.count(5), 3);
        x.set(0, 40);
        due("8: alone", x.family(3), 3);
        due("8: families", x.count(5), 4);
        due("8: below", x.family(-1), -1);
        due("8: above", x.family(4), -1);
    }

    private static void promise8JoinedLater() {
        IdeaWorks x = withHands(0);
        x.idea(0, 0, 0x00F, 0);
        x.idea(0, 0, 0x0F0, 0);
        x.idea(0, 0, 0xF00, 0);
        due("8: three families", x.count(5), 3);
        x.idea(0, 0, 0xFF0, 0);
        due("8: two joined", x.family(3), 1);
        due("8: two joined", x.family(2), 1);
        due("8: one aside", x.family(0), 0);
        x.idea(0, 0, 0x0FF, 0);
        due("8: all joined", x.family(2), 0);
        due("8: one family", x.count(5), 1);
    }

    private static void promise9Head() {
        IdeaWorks x = withHands(0);
        x.idea(0, 0, 3, 2);
        x.idea(0, 0, 3, 5);
        x.idea(0, 0, 3, 5);
        x.days(1);
        x.idea(0, 0, 3, 9);
        x.idea(0, 1, 3, 1);
        due("9: more fields, then the least", x.head(0), 1);
        due("9: the earliest day ahead of fields", x.head(3), 1);
        due("9: of another family", x.head(4), 4);
        x.idea(0, 1, 3, 2);
        due("9: a later number with more fields", x.head(4), 5);
        x.set(0, 7);
        due("9: alone", x.head(3), 3);
        due("9: below", x.head(-1), -1);
        due("9: above", x.head(6), -1);
    }

    private static void promise10Share() {
        IdeaWorks x = withHands(0);
        x.idea(0, 0, 3, 9);
        due("10: alone", x.share(0), 1000);
        x.idea(0, 0, 3, 0);
        due("10: the head of two", x.share(0), 600);
        due("10: the other of two", x.share(1), 400);
        x.idea(0, 0, 3, 1);
        x.idea(0, 0, 3, 3);
        due("10: 1 of 7", x.share(1), 57);
        due("10: 2 of 7", x.share(2), 114);
        due("10: 4 of 7", x.share(3), 228);
        due("10: the head, with what is left over", x.share(0), 601);
        x.set(1, 0);
        due("10: 1 of 7 of all", x.share(1), 142);
        due("10: the head has but the rest", x.share(0), 2);
        x.set(1, 1000);
        due("10: none for others", x.share(3), 0);
        due("10: all for the head", x.share(0), 1000);
        x.set(0, 7);
        x.set(1, 5);
        due("10: alone again", x.share(3), 1000);
        due("10: below", x.share(-1), -1);
        due("10: above", x.share(4), -1);
    }
}
