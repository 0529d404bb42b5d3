import java.util.ArrayList;
import java.util.Comparator;
import java.util.List;
import java.util.Set;
import java.util.TreeSet;

/** The document told once more, slowly: nothing is kept that can be found anew, and DAYS come one by one. */
final class PlainModel {
    private static final class Hand {
        final int number;
        final int shop;
        final Set<Integer> kin = new TreeSet<>();
        boolean judges;
        int named;
        int byPay;
        int byDelays;

        Hand(int number, int shop) {
            this.number = number;
            this.shop = shop;
        }
    }

    private static final class Idea {
        int number;
        Hand hand;
        int shop;
        Set<Integer> marks;
        int fields;
        int came;
        int state;
        int decided = -9;
        int paid;
        int harm;
        final List<Hand> team = new ArrayList<>();
    }

    private record Measure(int bench, Idea idea, boolean after, int cost) {
    }

    private record Rule(int number, int day, int parts, int cap, int years) {
    }

    private static final Comparator<Idea> HEADS_ORDER =
            Comparator.<Idea>comparingInt(i -> i.came).thenComparingInt(i -> -i.fields).thenComparingInt(i -> i.number);

    private final List<Hand> hands = new ArrayList<>();
    private final List<Idea> ideas = new ArrayList<>();
    private final List<Measure> measures = new ArrayList<>();
    private final List<Rule> rules = new ArrayList<>();
    private final List<Integer> works = new ArrayList<>();
    private final int[] benchShop = new int[10];
    private final int[] benchUnits = {100, 100, 100, 100, 100, 100, 100, 100, 100, 100};
    private final int[] refused = new int[7];
    private int day;
    private int limit = 4;
    private int heads = 600;
    private int patience = 30;
    private int fine = 1;

    /** Call number `call` of the face, in the document's order from 0 (hand) to 27 (count); true is any odd number. */
    int answer(int call, int a, int b, int c, int d) {
        int given = switch (call) {
            case 0 -> hand(a);
            case 1 -> kin(a, b, odd(c));
            case 2 -> idea(a, b, c, d);
            case 3 -> team(a, b);
            case 4 -> set(a, b);
            case 5 -> noIdea(a) || noIdea(b) ? -1 : 1000 + likeness(ideas.get(a).marks, ideas.get(b).marks);
            case 6 -> noIdea(a) ? -1 : family(ideas.get(a), limit).get(0).number;
            case 7 -> noIdea(a) ? -1 : head(family(ideas.get(a), limit)).number;
            case 8 -> noIdea(a) ? -1 : share(ideas.get(a));
            case 9 -> judge(a, odd(b));
            case 10 -> noHand(a) || noIdea(b) ? -1 : able(ideas.get(b)).contains(hands.get(a)) ? 1 : 0;
            case 11 -> judgeOf(a, b);
            case 12 -> decide(a, odd(b), odd(c), odd(d));
            case 13 -> days(a);
            case 14 -> bench(a, b, c);
            case 15 -> measure(a, b, odd(c), d);
            case 16 -> saved(a, b, c);
            case 17 -> harm(a, b);
            case 18 -> noIdea(a) ? -1 : worth(family(ideas.get(a), limit));
            case 19 -> rule(a, b, c, d);
            case 20 -> noIdea(a) ? -1 : ruleNumber(family(ideas.get(a), limit));
            case 21 -> work(a, b);
            case 22 -> a >= 0 && a < works.size() ? works.get(a) : -9;
            case 23 -> reopen(a);
            case 24 -> other(a, b, c);
            case 25 -> coins(a, b);
            case 26 -> ideaOf(a, b);
            default -> count(a);
        };
        if (call != 27 && given < 0 && given > -9) {
            refused[-given]++;
        }
        return given;
    }

    static boolean odd(int v) {
        return (v & 1) != 0;
    }

    private boolean noHand(int h) {
        return h < 0 || h >= hands.size();
    }

    private boolean noIdea(int i) {
        return i < 0 || i >= ideas.size();
    }

    private static boolean noShop(int s) {
        return s < 0 || s > 7;
    }

    private static boolean noMarks(int m) {
        return m < 1 || m > 65535;
    }

    private static Set<Integer> bits(int marks) {
        Set<Integer> found = new TreeSet<>();
        for (int b = 0; b < 16; b++) {
            if ((marks & 1 << b) != 0) {
                found.add(b);
            }
        }
        return found;
    }

    private static int likeness(Set<Integer> a, Set<Integer> b) {
        Set<Integer> any = new TreeSet<>(a);
        any.addAll(b);
        int sum = 0;
        for (int mark : any) {
            sum += a.contains(mark) && b.contains(mark) ? 3 : -1;
        }
        return sum;
    }

    private int hand(int shop) {
        if (noShop(shop)) {
            return -1;
        }
        if (hands.size() == 40) {
            return -6;
        }
        hands.add(new Hand(hands.size(), shop));
        return hands.size() - 1;
    }

    private int kin(int a, int b, boolean on) {
        if (noHand(a) || noHand(b) || a == b) {
            return -1;
        }
        boolean was = hands.get(a).kin.contains(b);
        if (on) {
            hands.get(a).kin.add(b);
            hands.get(b).kin.add(a);
        } else {
            hands.get(a).kin.remove(b);
            hands.get(b).kin.remove(a);
        }
        return was == on ? 0 : 1;
    }

    private int idea(int hand, int shop, int marks, int fields) {
        if (noHand(hand) || noShop(shop) || noMarks(marks)) {
            return -1;
        }
        if (fields < 0) {
            return -4;
        }
        if (fields > 9 || ideas.size() == 40) {
            return -6;
        }
        Idea made = new Idea();
        made.number = ideas.size();
        made.hand = hands.get(hand);
        made.shop = shop;
        made.marks = bits(marks);
        made.fields = fields;
        made.came = day;
        ideas.add(made);
        return made.number;
    }

    private int team(int idea, int hand) {
        if (noIdea(idea) || noHand(hand)) {
            return -1;
        }
        Idea of = ideas.get(idea);
        if (of.hand.number == hand || of.team.contains(hands.get(hand))) {
            return -3;
        }
        if (of.team.size() == 6) {
            return -6;
        }
        of.team.add(hands.get(hand));
        return of.team.size();
    }

    private int set(int what, int v) {
        if (what < 0 || what > 3) {
            return -2;
        }
        if (v < (what == 0 ? 1 : 0)) {
            return -4;
        }
        if (v > (what == 0 ? 40 : what == 1 ? 1000 : what == 2 ? 100 : 99)) {
            return -6;
        }
        int was;
        if (what == 0) {
            was = limit;
            limit = v;
        } else if (what == 1) {
            was = heads;
            heads = v;
        } else if (what == 2) {
            was = patience;
            patience = v;
        } else {
            was = fine;
            fine = v;
        }
        return was;
    }

    private List<Idea> family(Idea of, int byLimit) {
        Set<Integer> reached = new TreeSet<>();
        List<Idea> toDo = new ArrayList<>();
        toDo.add(of);
        reached.add(of.number);
        while (!toDo.isEmpty()) {
            Idea next = toDo.remove(0);
            for (Idea i : ideas) {
                if (i.shop == next.shop && likeness(i.marks, next.marks) >= byLimit && reached.add(i.number)) {
                    toDo.add(i);
                }
            }
        }
        List<Idea> all = new ArrayList<>();
        for (int number : reached) {
            all.add(ideas.get(number));
        }
        return all;
    }

    private static Idea head(List<Idea> family) {
        return family.stream().min(HEADS_ORDER).orElseThrow();
    }

    private int share(Idea of) {
        List<Idea> others = family(of, limit);
        Idea head = head(others);
        others.remove(head);
        if (others.isEmpty()) {
            return 1000;
        }
        int parts = others.stream().mapToInt(i -> 1 + i.fields).sum();
        int rest = 1000 - heads;
        int given = others.stream().mapToInt(i -> rest * (1 + i.fields) / parts).sum();
        return of == head ? heads + (rest - given) : rest * (1 + of.fields) / parts;
    }

    private int judge(int hand, boolean on) {
        if (noHand(hand)) {
            return -1;
        }
        boolean was = hands.get(hand).judges;
        hands.get(hand).judges = on;
        return was == on ? 0 : 1;
    }

    private List<Hand> able(Idea idea) {
        Set<Integer> tellers = new TreeSet<>();
        for (Idea i : family(idea, limit)) {
            tellers.add(i.hand.number);
            i.team.forEach(h -> tellers.add(h.number));
        }
        List<Hand> found = new ArrayList<>();
        for (Hand h : hands) {
            boolean kinOfThem = tellers.stream().anyMatch(t -> h.kin.contains(t));
            if (h.judges && h.shop != idea.shop && !tellers.contains(h.number) && !kinOfThem) {
                found.add(h);
            }
        }
        found.sort(Comparator.<Hand>comparingInt(h -> h.named).thenComparingInt(h -> h.number));
        return found;
    }

    private int judgeOf(int idea, int i) {
        if (noIdea(idea) || i < 0 || i > 1) {
            return -1;
        }
        List<Hand> able = able(ideas.get(idea));
        return able.size() < 2 ? -9 : able.get(i).number;
    }

    private int decide(int idea, boolean one, boolean two, boolean third) {
        if (noIdea(idea)) {
            return -1;
        }
        Idea of = ideas.get(idea);
        List<Hand> able = able(of);
        if (of.state != 0 || able.size() < 2) {
            return -3;
        }
        Hand first = able.get(0);
        Hand second = able.get(1);
        first.named++;
        second.named++;
        boolean yes = one && two;
        if (one != two) {
            List<Hand> left = able(of);
            left.remove(first);
            left.remove(second);
            if (!left.isEmpty()) {
                left.get(0).named++;
                yes = third;
            }
        }
        if (yes) {
            for (Idea i : family(of, limit)) {
                if (i.state == 0) {
                    settle(i, 1);
                }
            }
        } else {
            settle(of, 2);
        }
        return of.state;
    }

    private int settle(Idea of, int state) {
        of.state = state;
        of.decided = day;
        int late = day - of.came;
        int coins = late > patience ? (late - patience) * fine : 0;
        of.hand.byDelays += coins;
        return coins;
    }

    private int days(int n) {
        if (n < 1) {
            return -4;
        }
        if ((long) day + n > 3000) {
            return -6;
        }
        int sum = 0;
        for (int i = 0; i < n; i++) {
            day++;
            for (Idea of : ideas) {
                sum += payOn(of);
            }
        }
        return sum;
    }

    private int payOn(Idea of) {
        if (of.state != 1 || day == of.decided || (day - of.decided) % 360 != 0) {
            return 0;
        }
        List<Idea> family = family(of, limit);
        int number = ruleNumber(family);
        if (number < 0 || (day - of.decided) / 360 > rules.get(number).years) {
            return 0;
        }
        Rule rule = rules.get(number);
        int coins = pay(family, rule.parts, rule.cap) * share(of) / 1000;
        int each = coins / (of.team.size() + 1);
        of.team.forEach(h -> h.byPay += each);
        of.hand.byPay += coins - each * of.team.size();
        of.paid += coins;
        return coins;
    }

    private int bench(int bench, int what, int v) {
        if (bench < 0 || bench > 9 || what == 0 && noShop(v)) {
            return -1;
        }
        if (what < 0 || what > 1) {
            return -2;
        }
        if (v < 0) {
            return -4;
        }
        if (v > 10000) {
            return -6;
        }
        int was = what == 0 ? benchShop[bench] : benchUnits[bench];
        (what == 0 ? benchShop : benchUnits)[bench] = v;
        return was;
    }

    private int measure(int bench, int idea, boolean after, int cost) {
        if (bench < 0 || bench > 9 || noIdea(idea)) {
            return -1;
        }
        if (benchShop[bench] != ideas.get(idea).shop) {
            return -3;
        }
        if (cost < 0) {
            return -4;
        }
        if (cost > 9999 || measures.size() == 200) {
            return -6;
        }
        measures.add(new Measure(bench, ideas.get(idea), after, cost));
        return measures.size();
    }

    private int[] costs(int bench, List<Idea> family, boolean after) {
        return measures.stream().filter(m -> m.bench == bench && m.after == after && family.contains(m.idea))
                .mapToInt(m -> m.cost).sorted().toArray();
    }

    private static int sum(int[] costs) {
        int all = 0;
        for (int c : costs) {
            all += c;
        }
        return all;
    }

    private int savedOf(int bench, List<Idea> family, boolean hoped) {
        int[] before = costs(bench, family, false);
        int[] after = costs(bench, family, true);
        if (before.length == 0 || after.length == 0) {
            return 0;
        }
        int less = hoped ? sum(before) / before.length - sum(after) / after.length : before[0] - after[after.length - 1];
        return less > 0 ? less : 0;
    }

    private int saved(int bench, int idea, int what) {
        if (bench < 0 || bench > 9 || noIdea(idea)) {
            return -1;
        }
        return what < 0 || what > 1 ? -2 : savedOf(bench, family(ideas.get(idea), limit), what == 1);
    }

    private int harm(int idea, int coins) {
        if (noIdea(idea)) {
            return -1;
        }
        if (coins < 0) {
            return -4;
        }
        if (coins > 100000) {
            return -6;
        }
        int was = ideas.get(idea).harm;
        ideas.get(idea).harm = coins;
        return was;
    }

    private int worth(List<Idea> family) {
        long sum = 0;
        for (int b = 0; b < 10; b++) {
            sum += (long) savedOf(b, family, false) * benchUnits[b] / 100;
        }
        for (Idea i : family) {
            sum -= i.harm;
        }
        return sum > 0 ? (int) sum : 0;
    }

    private int pay(List<Idea> family, int parts, int cap) {
        return (int) Math.min((long) worth(family) * parts / 100, cap);
    }

    private int rule(int from, int parts, int cap, int years) {
        if (from < day || parts < 0 || cap < 0 || years < 1) {
            return -4;
        }
        if (from > 3000 || parts > 100 || cap > 100000 || years > 5 || rules.size() == 20) {
            return -6;
        }
        rules.add(new Rule(rules.size(), from, parts, cap, years));
        return rules.size() - 1;
    }

    private int ruleNumber(List<Idea> family) {
        int came = head(family).came;
        return rules.stream().filter(r -> r.day <= came)
                .max(Comparator.<Rule>comparingInt(r -> r.day).thenComparingInt(r -> r.number))
                .map(r -> r.number).orElse(-9);
    }

    private int work(int shop, int marks) {
        if (noShop(shop) || noMarks(marks)) {
            return -1;
        }
        if (works.size() == 20) {
            return -6;
        }
        Set<Integer> done = bits(marks);
        int found = ideas.stream()
                .filter(i -> i.shop == shop && i.state == 2 && likeness(i.marks, done) >= limit)
                .min(Comparator.<Idea>comparingInt(i -> -likeness(i.marks, done)).thenComparing(HEADS_ORDER))
                .map(i -> i.number).orElse(-9);
        works.add(found);
        return found;
    }

    private int reopen(int idea) {
        if (noIdea(idea)) {
            return -1;
        }
        if (!works.contains(idea) || ideas.get(idea).state != 2) {
            return -3;
        }
        return settle(ideas.get(idea), 1);
    }

    private int other(int byLimit, int parts, int cap) {
        if (byLimit < 1 || parts < 0 || cap < 0) {
            return -4;
        }
        if (byLimit > 40 || parts > 100 || cap > 100000) {
            return -6;
        }
        int sum = 0;
        for (Idea i : ideas) {
            List<Idea> family = family(i, byLimit);
            if (family.get(0) == i && family.stream().anyMatch(f -> f.state == 1)) {
                sum += pay(family, parts, cap);
            }
        }
        return sum;
    }

    private int coins(int hand, int what) {
        if (noHand(hand)) {
            return -1;
        }
        return what == 0 ? hands.get(hand).byPay : what == 1 ? hands.get(hand).byDelays : -2;
    }

    private int ideaOf(int idea, int what) {
        if (noIdea(idea)) {
            return -1;
        }
        Idea of = ideas.get(idea);
        return switch (what) {
            case 0 -> of.state;
            case 1 -> of.came;
            case 2 -> of.decided;
            case 3 -> of.paid;
            case 4 -> of.fields;
            case 5 -> of.marks.stream().mapToInt(m -> 1 << m).sum();
            default -> -2;
        };
    }

    private int count(int what) {
        return switch (what) {
            case 0 -> day;
            case 1 -> hands.size();
            case 2 -> ideas.size();
            case 3 -> (int) ideas.stream().filter(i -> i.state == 1).count();
            case 4 -> (int) ideas.stream().filter(i -> i.state == 2).count();
            case 5 -> (int) ideas.stream().filter(i -> family(i, limit).get(0) == i).count();
            case 6 -> measures.size();
            case 7 -> rules.size();
            case 8 -> works.size();
            case 9 -> hands.stream().mapToInt(h -> h.byPay + h.byDelays).sum();
            case 11, 12, 13, 14, 15, 16 -> refused[what - 10];
            default -> -9;
        };
    }
}
