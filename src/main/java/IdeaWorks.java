/** A works where any HAND may say how to do it better. The promises are in the project's document. */
public final class IdeaWorks {
    private static final int NOBODY = -1;
    private static final int OTHER = -2;
    private static final int STATE = -3;
    private static final int BELOW = -4;
    private static final int ROOM = -6;
    private static final int NONE = -9;

    private static final int SHOPS = 8;
    private static final int ALL_MARKS = 0xFFFF;
    private static final int MOST_FIELDS = 9;
    private static final int MOST_TEAM = 6;
    private static final int LAST_DAY = 3000;
    private static final int DAYS_OF_YEAR = 360;
    private static final int MOST_COST = 9999;
    private static final int MOST_UNITS = 10000;
    private static final int MOST_HARM = 100000;
    private static final int MOST_PARTS = 100;
    private static final int MOST_CAP = 100000;
    private static final int MOST_YEARS = 5;

    private static final int OPEN = 0;
    private static final int TAKEN = 1;
    private static final int TURNED_DOWN = 2;

    private static final int LIMIT = 0;
    private static final int HEADS = 1;
    private static final int PATIENCE = 2;
    private static final int FINE = 3;
    private static final int[] LEAST_SETTING = {1, 0, 0, 0};
    private static final int[] GREATEST_SETTING = {40, 1000, 100, 99};

    private final Hands hands = new Hands();
    private final Ideas ideas;
    private final Families families;
    private final Families supposed;
    private final Benches benches = new Benches();
    private final Measures measures = new Measures();
    private final Tally tally = new Tally();
    private final Rules rules = new Rules();
    private final Works works = new Works();
    private final int[] settings = {4, 600, 30, 1};
    private final int[] refusals = new int[7];
    private int day = 0;

    public IdeaWorks() {
        Ideas none = new Ideas();
        ideas = none;
        families = new Families(none);
        supposed = new Families(none);
    }

    public int hand(int shop) {
        if (!isShop(shop)) {
            return refuse(NOBODY);
        }
        if (hands.size >= Hands.MOST) {
            return refuse(ROOM);
        }
        return hands.add(shop);
    }

    public int kin(int a, int b, boolean on) {
        if (!isHand(a) || !isHand(b) || a == b) {
            return refuse(NOBODY);
        }
        return hands.setKin(a, b, on) ? 1 : 0;
    }

    public int idea(int hand, int shop, int marks, int fields) {
        if (!isHand(hand) || !isShop(shop) || !areMarks(marks)) {
            return refuse(NOBODY);
        }
        if (fields < 0) {
            return refuse(BELOW);
        }
        if (fields > MOST_FIELDS || ideas.size >= Ideas.MOST) {
            return refuse(ROOM);
        }
        int made = ideas.add(hand, shop, marks, fields, day);
        families.admit(made, settings[LIMIT]);
        return made;
    }

    public int team(int idea, int hand) {
        if (!isIdea(idea) || !isHand(hand)) {
            return refuse(NOBODY);
        }
        if (has(ideas.handsOf(idea), hand)) {
            return refuse(STATE);
        }
        if (ideas.teamSize(idea) >= MOST_TEAM) {
            return refuse(ROOM);
        }
        ideas.team[idea] |= 1L << hand;
        return ideas.teamSize(idea);
    }

    public int set(int what, int v) {
        if (what < 0 || what >= settings.length) {
            return refuse(OTHER);
        }
        if (v < LEAST_SETTING[what]) {
            return refuse(BELOW);
        }
        if (v > GREATEST_SETTING[what]) {
            return refuse(ROOM);
        }
        int was = settings[what];
        settings[what] = v;
        if (what == LIMIT && v != was) {
            families.build(v);
        }
        return was;
    }

    public int like(int a, int b) {
        if (!isIdea(a) || !isIdea(b)) {
            return refuse(NOBODY);
        }
        return 1000 + likeness(ideas.marks[a], ideas.marks[b]);
    }

    public int family(int idea) {
        if (!isIdea(idea)) {
            return refuse(NOBODY);
        }
        return families.least[idea];
    }

    public int head(int idea) {
        if (!isIdea(idea)) {
            return refuse(NOBODY);
        }
        return families.headOf(families.least[idea]);
    }

    public int share(int idea) {
        if (!isIdea(idea)) {
            return refuse(NOBODY);
        }
        return families.shareOf(idea, settings[HEADS]);
    }

    public int judge(int hand, boolean on) {
        if (!isHand(hand)) {
            return refuse(NOBODY);
        }
        boolean changed = hands.judges[hand] != on;
        hands.judges[hand] = on;
        return changed ? 1 : 0;
    }

    public int may(int hand, int idea) {
        if (!isHand(hand) || !isIdea(idea)) {
            return refuse(NOBODY);
        }
        return has(judgesFor(idea), hand) ? 1 : 0;
    }

    public int judgeOf(int idea, int i) {
        if (!isIdea(idea) || i < 0 || i > 1) {
            return refuse(NOBODY);
        }
        long able = judgesFor(idea);
        int first = hands.leastNamed(able);
        int second = hands.leastNamed(without(able, first));
        if (second == NONE) {
            return NONE;
        }
        return i == 0 ? first : second;
    }

    public int decide(int idea, boolean one, boolean two, boolean third) {
        if (!isIdea(idea)) {
            return refuse(NOBODY);
        }
        long able = judgesFor(idea);
        int first = hands.leastNamed(able);
        int second = hands.leastNamed(without(able, first));
        if (ideas.state[idea] != OPEN || first == NONE || second == NONE) {
            return refuse(STATE);
        }
        hands.named[first]++;
        hands.named[second]++;
        boolean yes = one;
        if (one != two) {
            yes = nameThird(without(without(able, first), second)) && third;
        }
        if (yes) {
            takeFamily(families.least[idea]);
        } else {
            settle(idea, TURNED_DOWN);
        }
        return ideas.state[idea];
    }

    public int days(int n) {
        if (n < 1) {
            return refuse(BELOW);
        }
        if (n > LAST_DAY - day) {
            return refuse(ROOM);
        }
        int before = day;
        day += n;
        int paid = 0;
        for (int i = 0; i < ideas.size; i++) {
            if (ideas.state[i] == TAKEN) {
                paid += payYearsSince(before, i);
            }
        }
        return paid;
    }

    public int bench(int bench, int what, int v) {
        if (!isBench(bench) || what == 0 && !isShop(v)) {
            return refuse(NOBODY);
        }
        if (what != 0 && what != 1) {
            return refuse(OTHER);
        }
        if (v < 0) {
            return refuse(BELOW);
        }
        if (v > MOST_UNITS) {
            return refuse(ROOM);
        }
        int[] row = what == 0 ? benches.shop : benches.units;
        int was = row[bench];
        row[bench] = v;
        return was;
    }

    public int measure(int bench, int idea, boolean after, int cost) {
        if (!isBench(bench) || !isIdea(idea)) {
            return refuse(NOBODY);
        }
        if (ideas.shop[idea] != benches.shop[bench]) {
            return refuse(STATE);
        }
        if (cost < 0) {
            return refuse(BELOW);
        }
        if (cost > MOST_COST || measures.size >= Measures.MOST) {
            return refuse(ROOM);
        }
        measures.add(bench, idea, after, cost);
        return measures.size;
    }

    public int saved(int bench, int idea, int what) {
        if (!isBench(bench) || !isIdea(idea)) {
            return refuse(NOBODY);
        }
        if (what != 0 && what != 1) {
            return refuse(OTHER);
        }
        tally.gather(measures, families, families.least[idea]);
        return what == 0 ? tally.beyondDoubt(bench) : tally.hoped(bench);
    }

    public int harm(int idea, int coins) {
        if (!isIdea(idea)) {
            return refuse(NOBODY);
        }
        if (coins < 0) {
            return refuse(BELOW);
        }
        if (coins > MOST_HARM) {
            return refuse(ROOM);
        }
        int was = ideas.harm[idea];
        ideas.harm[idea] = coins;
        return was;
    }

    public int worth(int idea) {
        if (!isIdea(idea)) {
            return refuse(NOBODY);
        }
        return worthOf(families, families.least[idea]);
    }

    public int rule(int day, int parts, int cap, int years) {
        if (day < this.day || parts < 0 || cap < 0 || years < 1) {
            return refuse(BELOW);
        }
        if (day > LAST_DAY || parts > MOST_PARTS || cap > MOST_CAP || years > MOST_YEARS) {
            return refuse(ROOM);
        }
        if (rules.size >= Rules.MOST) {
            return refuse(ROOM);
        }
        return rules.add(day, parts, cap, years);
    }

    public int ruleOf(int idea) {
        if (!isIdea(idea)) {
            return refuse(NOBODY);
        }
        return ruleFor(idea);
    }

    public int work(int shop, int marks) {
        if (!isShop(shop) || !areMarks(marks)) {
            return refuse(NOBODY);
        }
        if (works.size >= Works.MOST) {
            return refuse(ROOM);
        }
        int found = ideas.turnedDownLike(shop, marks, settings[LIMIT]);
        works.add(found);
        return found;
    }

    public int ledBack(int i) {
        return i >= 0 && i < works.size ? works.found[i] : NONE;
    }

    public int reopen(int idea) {
        if (!isIdea(idea)) {
            return refuse(NOBODY);
        }
        if (ideas.state[idea] != TURNED_DOWN || !works.ledBackTo(idea)) {
            return refuse(STATE);
        }
        return settle(idea, TAKEN);
    }

    public int other(int limit, int parts, int cap) {
        if (limit < LEAST_SETTING[LIMIT] || parts < 0 || cap < 0) {
            return refuse(BELOW);
        }
        if (limit > GREATEST_SETTING[LIMIT] || parts > MOST_PARTS || cap > MOST_CAP) {
            return refuse(ROOM);
        }
        supposed.build(limit);
        int sum = 0;
        for (int i = 0; i < ideas.size; i++) {
            if (supposed.least[i] == i && supposed.hasTaken(i)) {
                sum += payFor(worthOf(supposed, i), parts, cap);
            }
        }
        return sum;
    }

    public int coins(int hand, int what) {
        if (!isHand(hand)) {
            return refuse(NOBODY);
        }
        switch (what) {
            case 0: return hands.paid[hand];
            case 1: return hands.fined[hand];
            default: return refuse(OTHER);
        }
    }

    public int ideaOf(int idea, int what) {
        if (!isIdea(idea)) {
            return refuse(NOBODY);
        }
        switch (what) {
            case 0: return ideas.state[idea];
            case 1: return ideas.cameOn[idea];
            case 2: return ideas.state[idea] == OPEN ? NONE : ideas.decidedOn[idea];
            case 3: return ideas.paid[idea];
            case 4: return ideas.fields[idea];
            case 5: return ideas.marks[idea];
            default: return refuse(OTHER);
        }
    }

    public int count(int what) {
        switch (what) {
            case 0: return day;
            case 1: return hands.size;
            case 2: return ideas.size;
            case 3: return ideas.howMany(TAKEN);
            case 4: return ideas.howMany(TURNED_DOWN);
            case 5: return families.howMany();
            case 6: return measures.size;
            case 7: return rules.size;
            case 8: return works.size;
            case 9: return hands.coinsInAll();
            default: return what >= 11 && what <= 16 ? refusals[what - 10] : NONE;
        }
    }

    private int refuse(int number) {
        int row = -number;
        if (row >= 0 && row < refusals.length) {
            refusals[row]++;
        }
        return number;
    }

    private static boolean isShop(int shop) {
        return shop >= 0 && shop < SHOPS;
    }

    private static boolean areMarks(int marks) {
        return marks > 0 && marks <= ALL_MARKS;
    }

    private static boolean isBench(int bench) {
        return bench >= 0 && bench < Benches.MOST;
    }

    private boolean isHand(int hand) {
        return hand >= 0 && hand < hands.size;
    }

    private boolean isIdea(int idea) {
        return idea >= 0 && idea < ideas.size;
    }

    private static boolean has(long handSet, int hand) {
        return (handSet >>> hand & 1L) != 0L;
    }

    private static long without(long handSet, int hand) {
        return hand == NONE ? handSet : handSet & ~(1L << hand);
    }

    private static int likeness(int marks, int others) {
        return 3 * Integer.bitCount(marks & others) - Integer.bitCount(marks ^ others);
    }

    private static int payFor(int worth, int parts, int cap) {
        return Math.min(worth * parts / 100, cap);
    }

    private long judgesFor(int idea) {
        long barred = hands.withKin(families.handsOf(families.least[idea]));
        return hands.judgesOutside(ideas.shop[idea]) & ~barred;
    }

    private boolean nameThird(long able) {
        int third = hands.leastNamed(able);
        if (third == NONE) {
            return false;
        }
        hands.named[third]++;
        return true;
    }

    private void takeFamily(int family) {
        for (int i = 0; i < ideas.size; i++) {
            if (families.least[i] == family && ideas.state[i] == OPEN) {
                settle(i, TAKEN);
            }
        }
    }

    private int settle(int idea, int state) {
        ideas.state[idea] = state;
        ideas.decidedOn[idea] = day;
        int late = Math.max(0, day - ideas.cameOn[idea] - settings[PATIENCE]);
        int delay = late * settings[FINE];
        hands.fined[ideas.hand[idea]] += delay;
        return delay;
    }

    private int ruleFor(int idea) {
        return rules.inForceOn(ideas.cameOn[families.headOf(families.least[idea])]);
    }

    private int worthOf(Families made, int family) {
        tally.gather(measures, made, family);
        int sum = 0;
        for (int b = 0; b < Benches.MOST; b++) {
            sum += tally.beyondDoubt(b) * benches.units[b] / 100;
        }
        return Math.max(0, sum - made.harmOf(family));
    }

    // Nothing that PAY hangs on changes while DAYS pass, so an IDEA's YEARS can be paid one after the other.
    private int payYearsSince(int before, int idea) {
        int ended = (day - ideas.decidedOn[idea]) / DAYS_OF_YEAR;
        int endedBefore = (before - ideas.decidedOn[idea]) / DAYS_OF_YEAR;
        if (ended == endedBefore) {
            return 0;
        }
        int rule = ruleFor(idea);
        if (rule == NONE) {
            return 0;
        }
        int pay = payFor(worthOf(families, families.least[idea]), rules.parts[rule], rules.cap[rule]);
        int coins = pay * families.shareOf(idea, settings[HEADS]) / 1000;
        int paid = 0;
        int last = Math.min(ended, rules.years[rule]);
        for (int year = endedBefore + 1; year <= last; year++) {
            payOut(idea, coins);
            paid += coins;
        }
        return paid;
    }

    private void payOut(int idea, int coins) {
        int each = coins / (1 + ideas.teamSize(idea));
        int left = coins;
        for (int h = 0; h < hands.size; h++) {
            if (has(ideas.team[idea], h)) {
                hands.paid[h] += each;
                left -= each;
            }
        }
        hands.paid[ideas.hand[idea]] += left;
        ideas.paid[idea] += coins;
    }

    /** The HANDS; a set of them is a long with bit h for HAND h. */
    private static final class Hands {
        static final int MOST = 40;
        final int[] shop = new int[MOST];
        final long[] kinSet = new long[MOST];
        final boolean[] judges = new boolean[MOST];
        final int[] named = new int[MOST];
        final int[] paid = new int[MOST];
        final int[] fined = new int[MOST];
        int size = 0;

        int add(int ofShop) {
            shop[size] = ofShop;
            size++;
            return size - 1;
        }

        boolean setKin(int a, int b, boolean on) {
            if (has(kinSet[a], b) == on) {
                return false;
            }
            kinSet[a] ^= 1L << b;
            kinSet[b] ^= 1L << a;
            return true;
        }

        long withKin(long handSet) {
            long all = handSet;
            for (int h = 0; h < size; h++) {
                if (has(handSet, h)) {
                    all |= kinSet[h];
                }
            }
            return all;
        }

        long judgesOutside(int ofShop) {
            long found = 0L;
            for (int h = 0; h < size; h++) {
                if (judges[h] && shop[h] != ofShop) {
                    found |= 1L << h;
                }
            }
            return found;
        }

        int leastNamed(long handSet) {
            int best = NONE;
            for (int h = 0; h < size; h++) {
                if (has(handSet, h) && (best == NONE || named[h] < named[best])) {
                    best = h;
                }
            }
            return best;
        }

        int coinsInAll() {
            int sum = 0;
            for (int h = 0; h < size; h++) {
                sum += paid[h] + fined[h];
            }
            return sum;
        }
    }

    private static final class Ideas {
        static final int MOST = 40;
        final int[] hand = new int[MOST];
        final int[] shop = new int[MOST];
        final int[] marks = new int[MOST];
        final int[] fields = new int[MOST];
        final int[] cameOn = new int[MOST];
        final int[] state = new int[MOST];
        final int[] decidedOn = new int[MOST];
        final int[] paid = new int[MOST];
        final int[] harm = new int[MOST];
        final long[] team = new long[MOST];
        int size = 0;

        int add(int ofHand, int forShop, int itsMarks, int itsFields, int today) {
            hand[size] = ofHand;
            shop[size] = forShop;
            marks[size] = itsMarks;
            fields[size] = itsFields;
            cameOn[size] = today;
            size++;
            return size - 1;
        }

        int teamSize(int idea) {
            return Long.bitCount(team[idea]);
        }

        long handsOf(int idea) {
            return team[idea] | 1L << hand[idea];
        }

        boolean areAlike(int a, int b, int limit) {
            return shop[a] == shop[b] && likeness(marks[a], marks[b]) >= limit;
        }

        boolean isAhead(int a, int b) {
            if (cameOn[a] != cameOn[b]) {
                return cameOn[a] < cameOn[b];
            }
            if (fields[a] != fields[b]) {
                return fields[a] > fields[b];
            }
            return a < b;
        }

        int turnedDownLike(int forShop, int doneMarks, int limit) {
            int best = NONE;
            int bestLikeness = limit;
            for (int i = 0; i < size; i++) {
                if (state[i] != TURNED_DOWN || shop[i] != forShop) {
                    continue;
                }
                int now = likeness(marks[i], doneMarks);
                if (now > bestLikeness || now == bestLikeness && (best == NONE || isAhead(i, best))) {
                    best = i;
                    bestLikeness = now;
                }
            }
            return best;
        }

        int howMany(int ofState) {
            int found = 0;
            for (int i = 0; i < size; i++) {
                if (state[i] == ofState) {
                    found++;
                }
            }
            return found;
        }
    }

    /** The IDEAS parted into FAMILIES by one LIMIT; a FAMILY goes by its least IDEA. */
    private static final class Families {
        final Ideas ideas;
        final int[] least = new int[Ideas.MOST];

        Families(Ideas ideas) {
            this.ideas = ideas;
        }

        void build(int limit) {
            for (int i = 0; i < ideas.size; i++) {
                admit(i, limit);
            }
        }

        void admit(int idea, int limit) {
            least[idea] = idea;
            for (int i = 0; i < idea; i++) {
                if (least[i] != least[idea] && ideas.areAlike(i, idea, limit)) {
                    join(least[i], least[idea], idea);
                }
            }
        }

        private void join(int a, int b, int last) {
            int to = Math.min(a, b);
            int from = Math.max(a, b);
            for (int i = from; i <= last; i++) {
                if (least[i] == from) {
                    least[i] = to;
                }
            }
        }

        int headOf(int family) {
            int best = family;
            for (int i = family + 1; i < ideas.size; i++) {
                if (least[i] == family && ideas.isAhead(i, best)) {
                    best = i;
                }
            }
            return best;
        }

        int shareOf(int idea, int heads) {
            int family = least[idea];
            int first = headOf(family);
            int weights = 0;
            for (int i = family; i < ideas.size; i++) {
                if (least[i] == family && i != first) {
                    weights += 1 + ideas.fields[i];
                }
            }
            if (weights == 0) {
                return 1000;
            }
            if (idea != first) {
                return (1000 - heads) * (1 + ideas.fields[idea]) / weights;
            }
            int left = 1000;
            for (int i = family; i < ideas.size; i++) {
                if (least[i] == family && i != first) {
                    left -= (1000 - heads) * (1 + ideas.fields[i]) / weights;
                }
            }
            return left;
        }

        long handsOf(int family) {
            long all = 0L;
            for (int i = family; i < ideas.size; i++) {
                if (least[i] == family) {
                    all |= ideas.handsOf(i);
                }
            }
            return all;
        }

        int harmOf(int family) {
            int sum = 0;
            for (int i = family; i < ideas.size; i++) {
                if (least[i] == family) {
                    sum += ideas.harm[i];
                }
            }
            return sum;
        }

        boolean hasTaken(int family) {
            for (int i = family; i < ideas.size; i++) {
                if (least[i] == family && ideas.state[i] == TAKEN) {
                    return true;
                }
            }
            return false;
        }

        int howMany() {
            int found = 0;
            for (int i = 0; i < ideas.size; i++) {
                if (least[i] == i) {
                    found++;
                }
            }
            return found;
        }
    }

    private static final class Benches {
        static final int MOST = 10;
        final int[] shop = new int[MOST];
        final int[] units = {100, 100, 100, 100, 100, 100, 100, 100, 100, 100};
    }

    private static final class Measures {
        static final int MOST = 200;
        final int[] bench = new int[MOST];
        final int[] idea = new int[MOST];
        final boolean[] after = new boolean[MOST];
        final int[] cost = new int[MOST];
        int size = 0;

        void add(int atBench, int ofIdea, boolean isAfter, int itsCost) {
            bench[size] = atBench;
            idea[size] = ofIdea;
            after[size] = isAfter;
            cost[size] = itsCost;
            size++;
        }
    }

    /** What the MEASURES of one FAMILY come to, BENCH by BENCH; its rows serve one question after the other. */
    private static final class Tally {
        final int[] leastBefore = new int[Benches.MOST];
        final int[] sumBefore = new int[Benches.MOST];
        final int[] manyBefore = new int[Benches.MOST];
        final int[] greatestAfter = new int[Benches.MOST];
        final int[] sumAfter = new int[Benches.MOST];
        final int[] manyAfter = new int[Benches.MOST];

        void gather(Measures measures, Families families, int family) {
            clear();
            for (int m = 0; m < measures.size; m++) {
                if (families.least[measures.idea[m]] != family) {
                    continue;
                }
                if (measures.after[m]) {
                    addAfter(measures.bench[m], measures.cost[m]);
                } else {
                    addBefore(measures.bench[m], measures.cost[m]);
                }
            }
        }

        private void clear() {
            for (int b = 0; b < Benches.MOST; b++) {
                leastBefore[b] = MOST_COST;
                sumBefore[b] = 0;
                manyBefore[b] = 0;
                greatestAfter[b] = 0;
                sumAfter[b] = 0;
                manyAfter[b] = 0;
            }
        }

        private void addBefore(int bench, int cost) {
            leastBefore[bench] = Math.min(leastBefore[bench], cost);
            sumBefore[bench] += cost;
            manyBefore[bench]++;
        }

        private void addAfter(int bench, int cost) {
            greatestAfter[bench] = Math.max(greatestAfter[bench], cost);
            sumAfter[bench] += cost;
            manyAfter[bench]++;
        }

        private boolean hasBoth(int bench) {
            return manyBefore[bench] > 0 && manyAfter[bench] > 0;
        }

        int beyondDoubt(int bench) {
            return hasBoth(bench) ? Math.max(0, leastBefore[bench] - greatestAfter[bench]) : 0;
        }

        int hoped(int bench) {
            if (!hasBoth(bench)) {
                return 0;
            }
            return Math.max(0, sumBefore[bench] / manyBefore[bench] - sumAfter[bench] / manyAfter[bench]);
        }
    }

    private static final class Rules {
        static final int MOST = 20;
        final int[] fromDay = new int[MOST];
        final int[] parts = new int[MOST];
        final int[] cap = new int[MOST];
        final int[] years = new int[MOST];
        int size = 0;

        int add(int day, int itsParts, int itsCap, int itsYears) {
            fromDay[size] = day;
            parts[size] = itsParts;
            cap[size] = itsCap;
            years[size] = itsYears;
            size++;
            return size - 1;
        }

        int inForceOn(int day) {
            int best = NONE;
            for (int r = 0; r < size; r++) {
                if (fromDay[r] <= day && (best == NONE || fromDay[r] >= fromDay[best])) {
                    best = r;
                }
            }
            return best;
        }
    }

    private static final class Works {
        static final int MOST = 20;
        final int[] found = new int[MOST];
        int size = 0;

        void add(int idea) {
            found[size] = idea;
            size++;
        }

        boolean ledBackTo(int idea) {
            for (int w = 0; w < size; w++) {
                if (found[w] == idea) {
                    return true;
                }
            }
            return false;
        }
    }
}
