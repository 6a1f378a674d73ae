import java.util.ArrayList;
import java.util.Collections;
import java.util.List;
import java.util.Random;

/** Long runs of calls on a StoneBeds and on the Model side by side, 512 calls at most each. */
public final class ModelTest {
    private static final int RUNS = 3000;
    private static final int[] ODD = {
        Integer.MIN_VALUE, -101, -5, -4, -2, -1, 0, 1, 2, 3, 4, 5, 6, 7, 8, 10, 11, 12, 31, 39, 40, 63, 64, 200, 201, Integer.MAX_VALUE};

    private final Random random;
    private final int run;
    private final int longest;
    private final int plans;
    private final StoneBeds x = new StoneBeds();
    private final Model model = new Model();
    private int asked;

    private ModelTest(int run) {
        this.run = run;
        random = new Random(run);
        longest = new int[] {20, 80, 120, 200}[run % 4];
        plans = new int[] {1, 2, 8}[run % 3];
    }

    public static void main(String[] args) {
        for (int run = 0; run < RUNS; run++) {
            new ModelTest(run).calls();
        }
        Check.end("ModelTest");
    }

    private void calls() {
        if (run % 5 < 2) {
            fillYard();
        } else if (run % 5 == 2) {
            drawHardOnes();
        }
        boolean askAll = run / 60 % 2 == 0;
        // A round makes three calls at most, and one PART, of which eight things can be told.
        while (asked + 3 + (askAll ? allQuestions() + 8 : 0) <= Scene.MOST_CALLS) {
            if (random.nextInt(12) == 0) {
                oddCall();
            } else {
                plainCall();
            }
            ask();
        }
        if (askAll) {
            compareAll();
        }
        Check.holds("run " + run + ": " + asked + " calls are 512 at most", asked <= Scene.MOST_CALLS);
    }

    /** A yard of eight to twelve, as DIGGINGS and those to be STRUCK ask for. */
    private void fillYard() {
        int n = 8 + upTo(5);
        for (int i = 0; i < n; i++) {
            part(1 + upTo(15), 0, 1 + upTo(40));
            need(i, upTo(3));
        }
        due("cast(0, 0, ..)", x.cast(0, 0, (1 << n) - 1), model.cast(0, 0, (1 << n) - 1));
        hours(20);
        letGo(0);
        int stacks = 3 + upTo(3);
        for (int i = 0; i < n; i++) {
            stack(i, upTo(stacks));
        }
        for (int i = 0; i < 60; i++) {
            diggings();
            if (i % 4 == 0) {
                move(filled(), upTo(5));
            } else if (i % 4 == 2) {
                plainChange();
            }
        }
    }

    /** Twelve of nearly one LENGTH, of which two, three, .. nearly fill a BED. */
    private void drawHardOnes() {
        int about = 300 / (2 + upTo(5)) - 10;
        for (int i = 0; i < 14; i++) {
            part(about + upTo(20), upTo(plans), weight());
        }
        for (int from = 0; from < 3; from++) {
            for (int what = 0; what < 2; what++) {
                due("casts(" + from + ", ..)", x.casts(from, from + 11, what), model.casts(from, from + 11, what));
            }
        }
    }

    private void due(String call, long got, long want) {
        asked++;
        Check.due("run " + run + ": " + call, got, want);
    }

    private int upTo(int n) {
        return n <= 0 ? 0 : random.nextInt(n);
    }

    private int odd() {
        return random.nextInt(3) == 0 ? random.nextInt() : ODD[random.nextInt(ODD.length)];
    }

    private int one(int... wheres) {
        List<Integer> some = new ArrayList<>();
        for (int where : wheres) {
            some.addAll(model.those(where));
        }
        return some.isEmpty() || random.nextInt(20) == 0 ? upTo(model.count(0) + 1) : some.get(upTo(some.size()));
    }

    private int length() {
        return 1 + upTo(longest);
    }

    private int plan() {
        return upTo(plans);
    }

    private int weight() {
        return 1 + upTo(random.nextInt(3) == 0 ? 100 : 40);
    }

    private int filled() {
        for (int i = 0; i < 10; i++) {
            int s = upTo(5);
            if (model.at(s, 0) >= 0) {
                return s;
            }
        }
        return upTo(5);
    }

    private void plainCall() {
        switch (random.nextInt(16)) {
            case 0: part(length(), plan(), weight()); break;
            case 1: need(one(0, 1, 2, 3, 6), upTo(4)); break;
            case 2: casts(); break;
            case 3: cast(upTo(3), 1 + upTo(random.nextInt(4) == 0 ? 32 : 5)); break;
            case 4: warmth(random.nextInt(81) - 20); break;
            case 5: hours(1 + upTo(40)); break;
            case 6: letGo(upTo(3)); break;
            case 7: case 8: case 9: stack(one(2), upTo(5)); break;
            case 10: move(filled(), upTo(5)); break;
            case 11: case 12: diggings(); break;
            case 13: load(filled()); break;
            case 14: if (random.nextInt(3) == 0) { go(); } break;
            default: plainChange(); break;
        }
    }

    private void oddCall() {
        int a = odd(), b = odd(), c = odd(), d = odd();
        switch (random.nextInt(19)) {
            case 0: part(a, b, c); break;
            case 1: need(a, b); break;
            case 2: due("casts(" + a + ", " + b + ", " + c + ")", x.casts(a, b, c), model.casts(a, b, c)); break;
            case 3: due("cast(" + a + ", " + b + ", " + c + ")", x.cast(a, b, c), model.cast(a, b, c)); break;
            case 4: warmth(a); break;
            case 5: hours(a); break;
            case 6: letGo(a); break;
            case 7: stack(a, b); break;
            case 8: move(a, b); break;
            case 9: diggings(a, random.nextLong() >>> random.nextInt(64)); break;
            case 10: load(a); break;
            case 11: lorry(a); break;
            case 12: change(a, b, c, d); break;
            case 13: change(one(0, 1, 2, 3), 1 + upTo(201), upTo(9), 1 + upTo(101)); break;
            case 14: told(a, b); break;
            case 15: at(a, b); break;
            case 16: bed(a, b); break;
            case 17: count(a); break;
            default: diggings(upTo(8), odd()); break;
        }
    }

    private void part(int length, int plan, int weight) {
        due("part(" + length + ", " + plan + ", " + weight + ")", x.part(length, plan, weight), model.part(length, plan, weight));
    }

    private void need(int part, int n) {
        due("need(" + part + ", " + n + ")", x.need(part, n), model.need(part, n));
    }

    private void casts() {
        int from = upTo(model.count(0));
        int to = from + upTo(14);
        for (int what = 0; what < 2; what++) {
            due("casts(" + from + ", " + to + ", " + what + ")", x.casts(from, to, what), model.casts(from, to, what));
        }
    }

    /** Some of one PLAN, so that they often FIT. */
    private void cast(int bed, int most) {
        List<Integer> drawn = model.those(0);
        int from = drawn.isEmpty() ? 0 : drawn.get(upTo(drawn.size()));
        int bits = 0;
        int left = most;
        for (int p : drawn) {
            if (p >= from && p < from + 32 && left > 0 && (random.nextInt(20) == 0 || model.told(p, 1) == model.told(from, 1))) {
                bits |= 1 << (p - from);
                left--;
            }
        }
        due("cast(" + bed + ", " + from + ", " + bits + ")", x.cast(bed, from, bits), model.cast(bed, from, bits));
    }

    private void warmth(int w) {
        due("warmth(" + w + ")", x.warmth(w), model.warmth(w));
    }

    private void hours(int n) {
        due("hours(" + n + ")", x.hours(n), model.hours(n));
    }

    private void letGo(int bed) {
        due("letGo(" + bed + ")", x.letGo(bed), model.letGo(bed));
    }

    private void stack(int part, int stack) {
        due("stack(" + part + ", " + stack + ")", x.stack(part, stack), model.stack(part, stack));
    }

    private void move(int from, int to) {
        due("move(" + from + ", " + to + ")", x.move(from, to), model.move(from, to));
    }

    private void diggings() {
        List<Integer> there = model.those(3);
        Collections.shuffle(there, random);
        int n = Math.min(there.size(), upTo(7));
        long order = 0;
        for (int i = 0; i < n; i++) {
            order |= (long) there.get(i) << (6 * i);
        }
        diggings(n, order);
    }

    private void diggings(int n, long order) {
        due("diggings(" + n + ", " + order + ")", x.diggings(n, order), model.diggings(n, order));
    }

    private void load(int stack) {
        due("load(" + stack + ")", x.load(stack), model.load(stack));
    }

    private void go() {
        due("go()", x.go(), model.go());
    }

    private void plainChange() {
        int part = one(0, 1, 2, 3);
        int length = model.told(part, 0), plan = model.told(part, 1), weight = model.told(part, 2);
        switch (random.nextInt(6)) {
            case 0: change(part, length, plan, weight); break;
            case 1: change(part, length - upTo(4), plan, weight - upTo(2)); break;
            case 2: change(part, length + 1, plan, weight); break;
            case 3: change(part, length, plan, weight - 1 + upTo(3)); break;
            case 4: change(part, length - 1, plan(), weight); break;
            default: change(part, length(), plan(), weight()); break;
        }
    }

    private void change(int part, int length, int plan, int weight) {
        due("change(" + part + ", " + length + ", " + plan + ", " + weight + ")",
            x.change(part, length, plan, weight), model.change(part, length, plan, weight));
    }

    private void ask() {
        int what = upTo(12);
        switch (random.nextInt(5)) {
            case 0: told(upTo(model.count(0)), what % 8); break;
            case 1: at(what % 5, upTo(5)); break;
            case 2: bed(what % 3, what / 3); break;
            case 3: lorry(what % 5); break;
            default: count(what); break;
        }
    }

    private int allQuestions() {
        return 11 + 8 * model.count(0) + 20 + 12 + 5;
    }

    private void compareAll() {
        for (int what = 0; what <= 10; what++) {
            count(what);
        }
        for (int part = 0; part < model.count(0); part++) {
            for (int what = 0; what <= 7; what++) {
                told(part, what);
            }
        }
        for (int stack = 0; stack < 5; stack++) {
            for (int i = 0; i < 4; i++) {
                at(stack, i);
            }
        }
        for (int bed = 0; bed < 3; bed++) {
            for (int what = 0; what < 4; what++) {
                bed(bed, what);
            }
        }
        for (int what = 0; what < 5; what++) {
            lorry(what);
        }
    }

    private void count(int what) {
        due("count(" + what + ")", x.count(what), model.count(what));
    }

    private void told(int part, int what) {
        due("told(" + part + ", " + what + ")", x.told(part, what), model.told(part, what));
    }

    private void at(int stack, int i) {
        due("at(" + stack + ", " + i + ")", x.at(stack, i), model.at(stack, i));
    }

    private void bed(int bed, int what) {
        due("bed(" + bed + ", " + what + ")", x.bed(bed, what), model.bed(bed, what));
    }

    private void lorry(int what) {
        due("lorry(" + what + ")", x.lorry(what), model.lorry(what));
    }
}
