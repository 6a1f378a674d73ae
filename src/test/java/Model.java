import java.util.ArrayDeque;
import java.util.ArrayList;
import java.util.Arrays;
import java.util.HashSet;
import java.util.List;
import java.util.Set;

/**
 * The document once more, in the plainest words and by other ways than StoneBeds goes: all sets
 * for THE FEWEST CASTS, all yards for DIGGINGS, hours one by one.
 */
final class Model {
    private static final int BAD = -1, NO = -2, FULL = -3, NONE = -4;

    private enum Where { DRAWN, CAST, LOOSE, IN_YARD, AWAY, STRUCK, ON_LORRY }

    private static final class Part {
        int length, plan, weight, need, camber;
        int number = NONE;
        boolean toBeStruck;
        Where where = Where.DRAWN;
    }

    private final List<Part> parts = new ArrayList<>();
    private final List<List<Integer>> beds = new ArrayList<>();
    private final int[] ripeness = new int[3];
    private final int[] since = new int[3];
    private final List<List<Integer>> stacks = new ArrayList<>();
    private final List<Integer> lorry = new ArrayList<>();
    private int warmth = 15;
    private int hour, trips, casts;

    Model() {
        for (int i = 0; i < 3; i++) {
            beds.add(new ArrayList<>());
        }
        for (int i = 0; i < 5; i++) {
            stacks.add(new ArrayList<>());
        }
    }

    private boolean isPart(int part) {
        return part >= 0 && part < parts.size();
    }

    private static boolean in(int n, int least, int most) {
        return n >= least && n <= most;
    }

    private static boolean three(int length, int plan, int weight) {
        return in(length, 1, 200) && in(plan, 0, 7) && in(weight, 1, 100);
    }

    int part(int length, int plan, int weight) {
        if (!three(length, plan, weight)) return BAD;
        if (parts.size() == 40) return FULL;
        Part p = new Part();
        p.length = length;
        p.plan = plan;
        p.weight = weight;
        parts.add(p);
        return parts.size() - 1;
    }

    int need(int part, int n) {
        if (!isPart(part) || !in(n, 0, 1000)) return BAD;
        int was = parts.get(part).need;
        parts.get(part).need = n;
        return was;
    }

    private boolean fit(List<Integer> some) {
        int sum = 0;
        Set<Integer> plans = new HashSet<>();
        for (int p : some) {
            sum += parts.get(p).length;
            plans.add(parts.get(p).plan);
        }
        return plans.size() <= 1 && sum + 4 * (some.size() - 1) <= 300;
    }

    int casts(int from, int to, int what) {
        if (!isPart(from) || !isPart(to) || from > to || !in(what, 0, 1)) return BAD;
        List<Integer> drawn = new ArrayList<>();
        for (int p = from; p <= to; p++) {
            if (parts.get(p).where == Where.DRAWN) drawn.add(p);
        }
        if (drawn.size() > 12) return BAD;
        return what == 0 ? fewest(drawn) : plain(drawn);
    }

    private int fewest(List<Integer> drawn) {
        int n = drawn.size();
        boolean[] fits = new boolean[1 << n];
        for (int set = 1; set < 1 << n; set++) {
            List<Integer> some = new ArrayList<>();
            for (int i = 0; i < n; i++) {
                if ((set >> i & 1) != 0) some.add(drawn.get(i));
            }
            fits[set] = fit(some);
        }
        int[] least = new int[1 << n];
        for (int all = 1; all < 1 << n; all++) {
            least[all] = 99;
            int low = Integer.lowestOneBit(all);
            for (int set = all; set != 0; set = (set - 1) & all) {
                if ((set & low) != 0 && fits[set]) least[all] = Math.min(least[all], 1 + least[all ^ set]);
            }
        }
        return least[(1 << n) - 1];
    }

    private int plain(List<Integer> drawn) {
        List<Integer> sorted = new ArrayList<>(drawn);
        sorted.sort((a, b) -> {
            Part p = parts.get(a), q = parts.get(b);
            if (p.plan != q.plan) return p.plan - q.plan;
            return p.length != q.length ? q.length - p.length : a - b;
        });
        List<List<Integer>> made = new ArrayList<>();
        for (int p : sorted) {
            List<Integer> on = null;
            for (List<Integer> cast : made) {
                cast.add(p);
                boolean fits = fit(cast);
                cast.remove(cast.size() - 1);
                if (fits) {
                    on = cast;
                    break;
                }
            }
            if (on == null) {
                on = new ArrayList<>();
                made.add(on);
            }
            on.add(p);
        }
        return made.size();
    }

    int cast(int bed, int from, int bits) {
        if (!in(bed, 0, 2) || !isPart(from) || bits == 0) return BAD;
        List<Integer> some = new ArrayList<>();
        for (int i = 0; i < 32; i++) {
            if ((bits & 1 << i) != 0) some.add(from + i);
        }
        for (int p : some) {
            if (!isPart(p)) return BAD;
        }
        for (int p : some) {
            if (parts.get(p).where != Where.DRAWN) return NO;
        }
        if (!beds.get(bed).isEmpty() || !fit(some)) return NO;
        for (int p : some) {
            parts.get(p).where = Where.CAST;
            parts.get(p).number = bed;
        }
        beds.get(bed).addAll(some);
        ripeness[bed] = 0;
        since[bed] = 0;
        casts++;
        return some.size();
    }

    int warmth(int w) {
        if (!in(w, -20, 60)) return -100;
        int was = warmth;
        warmth = w;
        return was;
    }

    int hours(int n) {
        if (!in(n, 1, 200)) return BAD;
        if (hour + n > 100000) return FULL;
        for (int i = 0; i < n; i++) {
            hour++;
            for (int bed = 0; bed < 3; bed++) {
                if (beds.get(bed).isEmpty()) continue;
                since[bed]++;
                if (warmth + 10 > 0) ripeness[bed] += warmth + 10;
            }
        }
        return hour;
    }

    int letGo(int bed) {
        if (!in(bed, 0, 2)) return BAD;
        if (beds.get(bed).isEmpty() || ripeness[bed] < 500 || since[bed] < 12) return NO;
        int loose = 0;
        for (int number : beds.get(bed)) {
            Part p = parts.get(number);
            p.camber = (int) ((long) p.length * p.length * (p.plan + 1) / (ripeness[bed] + 1000));
            p.where = p.toBeStruck ? Where.STRUCK : Where.LOOSE;
            p.toBeStruck = false;
            p.number = NONE;
            if (p.where == Where.LOOSE) loose++;
        }
        beds.get(bed).clear();
        return loose;
    }

    int stack(int part, int stack) {
        if (!isPart(part) || !in(stack, 0, 4)) return BAD;
        if (parts.get(part).where != Where.LOOSE) return NO;
        if (stacks.get(stack).size() == 4) return FULL;
        stacks.get(stack).add(part);
        parts.get(part).where = Where.IN_YARD;
        parts.get(part).number = stack;
        return stacks.get(stack).size();
    }

    private int take(int stack) {
        List<Integer> s = stacks.get(stack);
        return s.remove(s.size() - 1);
    }

    private void strikeBared() {
        for (List<Integer> s : stacks) {
            while (!s.isEmpty() && parts.get(s.get(s.size() - 1)).toBeStruck) {
                Part p = parts.get(s.remove(s.size() - 1));
                p.toBeStruck = false;
                p.where = Where.STRUCK;
                p.number = NONE;
            }
        }
    }

    int move(int from, int to) {
        if (!in(from, 0, 4) || !in(to, 0, 4) || from == to) return BAD;
        if (stacks.get(from).isEmpty()) return NO;
        if (stacks.get(to).size() == 4) return FULL;
        int p = take(from);
        stacks.get(to).add(p);
        parts.get(p).number = to;
        strikeBared();
        return p;
    }

    int diggings(int n, long order) {
        if (!in(n, 0, 6)) return BAD;
        List<Integer> wanted = new ArrayList<>();
        long left = order;
        for (int i = 0; i < n; i++) {
            int p = (int) (left & 63);
            left >>>= 6;
            if (!isPart(p) || wanted.contains(p)) return BAD;
            wanted.add(p);
        }
        if (left != 0) return BAD;
        int there = 0;
        for (List<Integer> s : stacks) {
            there += s.size();
        }
        if (there > 10) return NO;
        for (int p : wanted) {
            if (parts.get(p).where != Where.IN_YARD) return NO;
        }
        return breadthFirst(wanted);
    }

    private static final class Yard {
        final List<List<Integer>> stacks;
        final int moves;

        Yard(List<List<Integer>> stacks, int moves) {
            this.stacks = new ArrayList<>();
            for (List<Integer> s : stacks) {
                this.stacks.add(new ArrayList<>(s));
            }
            this.moves = moves;
        }
    }

    private static int taken(Yard yard, List<Integer> wanted) {
        for (int i = 0; i < wanted.size(); i++) {
            for (List<Integer> s : yard.stacks) {
                if (s.contains(wanted.get(i))) return i;
            }
        }
        return wanted.size();
    }

    private static int breadthFirst(List<Integer> wanted, Yard first) {
        ArrayDeque<Yard> open = new ArrayDeque<>();
        Set<String> seen = new HashSet<>();
        open.add(first);
        while (!open.isEmpty()) {
            Yard yard = open.poll();
            int next = taken(yard, wanted);
            List<Integer> source = null;
            while (next < wanted.size()) {
                for (List<Integer> s : yard.stacks) {
                    if (s.contains(wanted.get(next))) source = s;
                }
                if (!source.get(source.size() - 1).equals(wanted.get(next))) break;
                source.remove(source.size() - 1);
                next++;
            }
            if (next == wanted.size()) return yard.moves;
            if (!seen.add(yard.stacks.toString())) continue;
            int from = yard.stacks.indexOf(source);
            for (int to = 0; to < 5; to++) {
                if (to == from || yard.stacks.get(to).size() == 4) continue;
                Yard then = new Yard(yard.stacks, yard.moves + 1);
                List<Integer> s = then.stacks.get(from);
                then.stacks.get(to).add(s.remove(s.size() - 1));
                open.add(then);
            }
        }
        return 1000;
    }

    private int breadthFirst(List<Integer> wanted) {
        return breadthFirst(wanted, new Yard(stacks, 0));
    }

    private int front() {
        int sum = 0;
        for (int i = 0; i < lorry.size(); i++) {
            sum += parts.get(lorry.get(i)).weight * (8 - 2 * i);
        }
        return sum;
    }

    private int rear() {
        int sum = 0;
        for (int i = 0; i < lorry.size(); i++) {
            sum += parts.get(lorry.get(i)).weight * (2 * i + 1);
        }
        return sum;
    }

    private int weight() {
        int sum = 0;
        for (int p : lorry) {
            sum += parts.get(p).weight;
        }
        return sum;
    }

    int load(int stack) {
        if (!in(stack, 0, 4)) return BAD;
        List<Integer> s = stacks.get(stack);
        if (s.isEmpty()) return NO;
        if (lorry.size() == 4) return FULL;
        int p = s.get(s.size() - 1);
        lorry.add(p);
        if (weight() > 120 || front() > 720 || rear() > 720) {
            lorry.remove(lorry.size() - 1);
            return NO;
        }
        take(stack);
        parts.get(p).where = Where.ON_LORRY;
        parts.get(p).number = NONE;
        strikeBared();
        return lorry.size() - 1;
    }

    int go() {
        if (lorry.isEmpty()) return NO;
        int gone = lorry.size();
        for (int p : lorry) {
            parts.get(p).where = Where.AWAY;
            parts.get(p).number = trips;
        }
        trips++;
        lorry.clear();
        return gone;
    }

    int lorry(int what) {
        int right = 1;
        int before = -1;
        for (int i = lorry.size() - 1; i >= 0; i--) {
            if (parts.get(lorry.get(i)).need < before) right = 0;
            before = parts.get(lorry.get(i)).need;
        }
        int[] answers = {lorry.size(), weight(), front(), rear(), right};
        return in(what, 0, 4) ? answers[what] : BAD;
    }

    int change(int part, int length, int plan, int weight) {
        if (!isPart(part) || !three(length, plan, weight)) return BAD;
        Part p = parts.get(part);
        if (Arrays.asList(Where.AWAY, Where.ON_LORRY, Where.STRUCK).contains(p.where) || p.toBeStruck) return NO;
        if (p.length == length && p.plan == plan && p.weight == weight) return 2;
        boolean cut = p.plan == plan && length < p.length && weight <= p.weight;
        if (p.where == Where.DRAWN || cut && p.where == Where.LOOSE) {
            p.length = length;
            p.plan = plan;
            p.weight = weight;
            return p.where == Where.DRAWN ? 0 : 1;
        }
        if (cut) return NO;
        int made = part(length, plan, weight);
        if (made == FULL) return FULL;
        parts.get(made).need = p.need;
        if (p.where == Where.LOOSE) {
            p.where = Where.STRUCK;
        } else {
            p.toBeStruck = true;
        }
        strikeBared();
        return 100 + made;
    }

    int told(int part, int what) {
        if (!isPart(part) || !in(what, 0, 7)) return BAD;
        Part p = parts.get(part);
        int[] answers = {p.length, p.plan, p.weight, p.need, p.where.ordinal(), p.number, p.camber, p.toBeStruck ? 1 : 0};
        return answers[what];
    }

    int at(int stack, int i) {
        if (!in(stack, 0, 4) || i < 0) return BAD;
        return in(i, 0, stacks.get(stack).size() - 1) ? stacks.get(stack).get(i) : NONE;
    }

    int bed(int bed, int what) {
        if (!in(bed, 0, 2) || !in(what, 0, 3)) return BAD;
        List<Integer> on = beds.get(bed);
        if (on.isEmpty()) return 0;
        int length = 4 * (on.size() - 1);
        for (int p : on) {
            length += parts.get(p).length;
        }
        int[] answers = {on.size(), length, ripeness[bed], since[bed]};
        return answers[what];
    }

    int count(int what) {
        int[] answers = {parts.size(), hour, trips, casts};
        if (in(what, 0, 3)) return answers[what];
        if (!in(what, 4, 10)) return BAD;
        int n = 0;
        for (Part p : parts) {
            if (p.where.ordinal() == what - 4) n++;
        }
        return n;
    }

    /** The parts that are there, for runs that want to make sense. */
    List<Integer> those(int where) {
        List<Integer> some = new ArrayList<>();
        for (int p = 0; p < parts.size(); p++) {
            if (parts.get(p).where.ordinal() == where) some.add(p);
        }
        return some;
    }
}
