/** Works in a state from which a test goes on. */
final class Scene {
    static final int LEAST_INT = Integer.MIN_VALUE;
    static final int GREATEST_INT = Integer.MAX_VALUE;
    /** No numbers of anything; many would be one if only their last bits were looked at. */
    static final int[] FAR_OFF = {LEAST_INT, LEAST_INT + 1, -65536, -256, -64, -1, 64, 256, 65536, 1 << 30, GREATEST_INT - 1, GREATEST_INT};

    private Scene() {
    }

    static IdeaWorks withHands(int... shops) {
        IdeaWorks x = new IdeaWorks();
        for (int shop : shops) {
            x.hand(shop);
        }
        return x;
    }

    /** HAND 0 of SHOP 0, and judges of SHOP 1 from HAND 1 on. */
    static IdeaWorks withJudges(int many) {
        IdeaWorks x = withHands(0);
        for (int h = 1; h <= many; h++) {
            x.hand(1);
            x.judge(h, true);
        }
        return x;
    }

    /** HAND 0 of SHOP 0, judges 1 and 2 of SHOP 1, and OPEN IDEAS of HAND 0 for SHOP 0, each of these MARKS. */
    static IdeaWorks withIdeas(int... marks) {
        IdeaWorks x = withJudges(2);
        for (int m : marks) {
            x.idea(0, 0, m, 0);
        }
        return x;
    }

    /** IDEA 0 saves this much of each unit at BENCH 0, which makes 100 a YEAR: so its WORTH is as much. */
    static void save(IdeaWorks x, int much) {
        x.measure(0, 0, false, much);
        x.measure(0, 0, true, 0);
    }

    static void take(IdeaWorks x, int idea) {
        x.decide(idea, true, true, true);
    }

    static void turnDown(IdeaWorks x, int idea) {
        x.decide(idea, false, false, false);
    }

    static int refusals(IdeaWorks x) {
        int all = 0;
        for (int what = 11; what <= 16; what++) {
            all += x.count(what);
        }
        return all;
    }
}
