import java.util.ArrayList;
import java.util.Arrays;
import java.util.List;
import java.util.function.IntFunction;

/**
 * The calls that bring an object to where a test wants it. The object is made anew for every few
 * questions: it is used for 512 calls at most, and some questions change it.
 */
final class Scene {
    /** A call, and what it answers. */
    interface Call {
        long on(StoneBeds x);
    }

    private record Question(String name, Call call) {
    }

    static final int MOST_CALLS = 512;

    /** Changing nothing, these may be asked of one object one behind the other. */
    private static final List<Question> ASKED = asked();
    /** Each of these is asked of an object of its own. */
    private static final List<Question> TRIED = tried();

    private final List<Call> calls;
    private List<Long> known;

    private Scene(List<Call> calls) {
        this.calls = calls;
    }

    static Scene of(Call... calls) {
        return new Scene(Arrays.asList(calls));
    }

    static Scene drawn(int plan, int... lengths) {
        Scene scene = of();
        for (int length : lengths) {
            scene = scene.and(x -> x.part(length, plan, 1));
        }
        return scene;
    }

    /** n like ones of PLAN 0, DRAWN. */
    static Scene draw(int n, int length, int weight) {
        return of().times(n, x -> x.part(length, 0, weight));
    }

    /** PARTS 0 .. n - 1, all LOOSE, and all BEDS empty. */
    static Scene loose(int n, int length, int weight) {
        int bits = n == 32 ? -1 : (1 << n) - 1;
        return draw(n, length, weight).and(x -> x.cast(0, 0, bits), x -> x.hours(20), x -> x.letGo(0));
    }

    /** As many PARTS as the heights tell, numbered from STACK 0 on, each STACK from beneath. */
    static Scene yard(int... heights) {
        Scene scene = loose(Arrays.stream(heights).sum(), 5, 10);
        int part = 0;
        for (int stack = 0; stack < heights.length; stack++) {
            for (int i = 0; i < heights[stack]; i++) {
                int on = stack;
                int put = part++;
                scene = scene.and(x -> x.stack(put, on));
            }
        }
        return scene;
    }

    /** PART i has the i-th WEIGHT and lies on STACK i; PART 5 lies beneath PART 0, and so on. */
    static Scene weights(int... weights) {
        Scene scene = of();
        for (int weight : weights) {
            scene = scene.and(x -> x.part(5, 0, weight));
        }
        scene = scene.and(x -> x.cast(0, 0, (1 << weights.length) - 1), x -> x.hours(20), x -> x.letGo(0));
        for (int i = weights.length - 1; i >= 0; i--) {
            int part = i;
            scene = scene.and(x -> x.stack(part, part % 5));
        }
        return scene;
    }

    /**
     * 21 PARTS, some wherever a PART can be: DRAWN 14, 15, 18 to 20; on BED 1 16, to be STRUCK, and
     * 17; LOOSE 9, 10, 12, 13; on STACK 0 0 to 3, on STACK 1 4, to be STRUCK, and 5, on STACK 2 6;
     * AWAY 7; on the LORRY 8; STRUCK 11. BEDS 0 and 2, STACKS 3 and 4 are empty.
     */
    static Scene everywhere() {
        Scene scene = of();
        for (int i = 0; i < 14; i++) {
            int part = i;
            scene = scene.and(x -> x.part(10 + part, 0, 5 + part), x -> x.need(part, 3 * part));
        }
        return scene
            .and(x -> x.cast(0, 0, 0x3fff), x -> x.hours(20), x -> x.letGo(0))
            .and(x -> x.stack(0, 0), x -> x.stack(1, 0), x -> x.stack(2, 0), x -> x.stack(3, 0))
            .and(x -> x.stack(4, 1), x -> x.stack(5, 1), x -> x.stack(6, 2))
            .and(x -> x.stack(7, 3), x -> x.load(3), x -> x.go())
            .and(x -> x.stack(8, 3), x -> x.load(3))
            .and(x -> x.change(11, 99, 0, 1), x -> x.change(12, 5, 0, 1), x -> x.change(4, 99, 1, 1))
            .and(x -> x.part(130, 2, 30), x -> x.part(140, 2, 40), x -> x.cast(1, 16, 3))
            .and(x -> x.change(16, 50, 3, 50), x -> x.part(60, 1, 60), x -> x.part(70, 1, 70))
            .and(x -> x.warmth(7), x -> x.hours(3));
    }

    /** A new object at this HOUR, by as few calls as can be. */
    static Scene atHour(int hour) {
        int rest = hour % 200;
        Scene scene = of().times(hour / 200, x -> x.hours(200));
        return rest == 0 ? scene : scene.and(x -> x.hours(rest));
    }

    Scene and(Call... more) {
        List<Call> all = new ArrayList<>(calls);
        all.addAll(Arrays.asList(more));
        return new Scene(all);
    }

    Scene times(int n, Call call) {
        Call[] more = new Call[n];
        Arrays.fill(more, call);
        return and(more);
    }

    StoneBeds made() {
        StoneBeds x = new StoneBeds();
        for (Call call : calls) {
            call.on(x);
        }
        return x;
    }

    void due(String name, long want, Call call) {
        Check.holds(name + " is asked by one of 512 calls", calls.size() < MOST_CALLS);
        Check.due(name, call.on(made()), want);
    }

    /** What stands when this call has answered so. */
    Scene takes(String name, long want, Call call) {
        due(name, want, call);
        return and(call);
    }

    /** The call answers so, and all that can be asked answers after it as before it. */
    void refuses(String name, long want, Call call) {
        due(name, want, call);
        leaves(name, call);
    }

    void refusesEach(String name, long want, int[] numbers, IntFunction<Call> calling) {
        for (int n : numbers) {
            refuses(name + " with " + n, want, calling.apply(n));
        }
    }

    /** All that can be asked answers after the call as before it. */
    void leaves(String name, Call call) {
        if (known == null) {
            known = answersBehind();
        }
        List<Long> then = answersBehind(call);
        for (int i = 0; i < known.size(); i++) {
            String question = (i < ASKED.size() ? ASKED.get(i) : TRIED.get(i - ASKED.size())).name();
            if (!known.get(i).equals(then.get(i))) {
                Check.due(name + ", behind it " + question, then.get(i), known.get(i));
                return;
            }
        }
        Check.holds(name + " changes nothing", true);
    }

    private List<Long> answersBehind(Call... last) {
        Scene scene = and(last);
        int most = MOST_CALLS - scene.calls.size();
        List<Long> answers = new ArrayList<>();
        if (most <= 0) {
            Check.holds("a call is left to ask by", false);
            return answers;
        }
        StoneBeds x = null;
        int left = 0;
        for (Question q : ASKED) {
            if (left == 0) {
                x = scene.made();
                left = most;
            }
            answers.add(q.call().on(x));
            left--;
        }
        for (Question q : TRIED) {
            answers.add(q.call().on(scene.made()));
        }
        return answers;
    }

    private static List<Question> asked() {
        List<Question> all = new ArrayList<>();
        each(all, "count", -1, 11, 0, 0, (what, none) -> x -> x.count(what));
        each(all, "lorry", -1, 5, 0, 0, (what, none) -> x -> x.lorry(what));
        each(all, "bed", -1, 3, -1, 4, (bed, what) -> x -> x.bed(bed, what));
        each(all, "at", -1, 5, -1, 4, (stack, i) -> x -> x.at(stack, i));
        each(all, "told", -1, 40, -1, 8, (part, what) -> x -> x.told(part, what));
        each(all, "casts, twelve of them,", 0, 28, 0, 1, (from, what) -> x -> x.casts(from, from + 11, what));
        each(all, "casts, one of them,", 0, 39, 0, 1, (from, what) -> x -> x.casts(from, from, what));
        each(all, "diggings, two of them,", 0, 12, 0, 12, (a, b) -> x -> x.diggings(2, Check.order(a, b)));
        each(all, "diggings, one of them,", 0, 40, 0, 0, (part, none) -> x -> x.diggings(1, part));
        each(all, "diggings, none of them,", 0, 0, 0, 0, (none, no) -> x -> x.diggings(0, 0));
        return all;
    }

    private static List<Question> tried() {
        List<Question> all = new ArrayList<>();
        each(all, "warmth", 0, 0, 0, 0, (w, none) -> x -> x.warmth(w));
        each(all, "hours", 1, 1, 0, 0, (n, none) -> x -> x.hours(n));
        each(all, "hours", 200, 200, 0, 0, (n, none) -> x -> x.hours(n));
        each(all, "letGo", 0, 2, 0, 0, (bed, none) -> x -> x.letGo(bed));
        each(all, "move", 0, 4, 0, 4, (from, to) -> x -> x.move(from, to));
        each(all, "load", 0, 4, 0, 0, (stack, none) -> x -> x.load(stack));
        each(all, "go", 0, 0, 0, 0, (none, no) -> x -> x.go());
        each(all, "part", 1, 1, 0, 0, (length, plan) -> x -> x.part(length, plan, 1));
        each(all, "cast on", 0, 2, 0, 39, (bed, part) -> x -> x.cast(bed, part, 1));
        each(all, "stack", 0, 39, 0, 4, (part, stack) -> x -> x.stack(part, stack));
        each(all, "change to less of", 0, 39, 0, 0, (part, plan) -> x -> x.change(part, 1, plan, 1));
        each(all, "change to more of", 0, 39, 7, 7, (part, plan) -> x -> x.change(part, 200, plan, 100));
        return all;
    }

    private interface CallOfTwo {
        Call of(int a, int b);
    }

    private static void each(List<Question> all, String name, int a, int toA, int b, int toB, CallOfTwo calling) {
        for (int i = a; i <= toA; i++) {
            for (int j = b; j <= toB; j++) {
                all.add(new Question(name + " " + i + ", " + j, calling.of(i, j)));
            }
        }
    }
}
