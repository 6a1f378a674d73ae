/** Promises 12, 13 and 14: the LORRY. */
public final class LorryTest {
    private static final int[] OUTSIDE = {Integer.MIN_VALUE, -1, Integer.MAX_VALUE};

    public static void main(String[] args) {
        load();
        loadFull();
        loadTooHeavy();
        loadFrontAxle();
        loadRearAxle();
        loadLaysBare();
        go();
        lorry();
        right();
        Check.end("LorryTest");
    }

    /** One PART of each WEIGHT, PART i on STACK i; a PART 5 would lie beneath PART 0. */
    private static StoneBeds withWeights(int... weights) {
        StoneBeds x = new StoneBeds();
        for (int weight : weights) {
            x.part(5, 0, weight);
        }
        x.cast(0, 0, (1 << weights.length) - 1);
        x.hours(20);
        x.letGo(0);
        for (int i = weights.length - 1; i >= 0; i--) {
            x.stack(i, i % 5);
        }
        return x;
    }

    private static void load() {
        StoneBeds x = withWeights(10, 20, 30);
        Check.due("load: no stack", x.load(5), StoneBeds.BAD);
        for (int o : OUTSIDE) {
            Check.due("load: stack " + o, x.load(o), StoneBeds.BAD);
        }
        Check.due("load: empty", x.load(3), StoneBeds.NO);
        Check.due("load: place 0", x.load(2), 0);
        Check.due("load: place 1", x.load(0), 1);
        Check.due("load: place 2", x.load(1), 2);
        Check.due("load: it is on the lorry", x.told(0, 4), 6);
        Check.due("load: empty then", x.load(0), StoneBeds.NO);
        int[] due = {3, 60, 30 * 8 + 10 * 6 + 20 * 4, 30 + 10 * 3 + 20 * 5, 1};
        for (int what = 0; what < due.length; what++) {
            Check.due("lorry(" + what + ")", x.lorry(what), due[what]);
        }
    }

    private static void loadFull() {
        StoneBeds x = withWeights(1, 1, 1, 1, 100, 1);
        for (int i = 0; i < 4; i++) {
            Check.due("load: place " + i, x.load(i), i);
        }
        String before = Check.all(x);
        Check.due("load: a fifth, too heavy as well", x.load(4), StoneBeds.FULL);
        Check.due("load: a fifth", x.load(0), StoneBeds.FULL);
        Check.due("load: empty ahead of full", x.load(1), StoneBeds.NO);
        Check.holds("load: refused ones change nothing", before.equals(Check.all(x)));
    }

    private static void loadTooHeavy() {
        // With the light ones ahead neither AXLE is near its most.
        StoneBeds x = withWeights(20, 20, 20, 61, 60);
        x.load(0);
        x.load(1);
        x.load(2);
        String before = Check.all(x);
        Check.due("load: 121", x.load(3), StoneBeds.NO);
        Check.holds("load: too heavy changes nothing", before.equals(Check.all(x)));
        Check.due("load: 120", x.load(4), 3);
        Check.due("lorry: 120", x.lorry(1), 120);
    }

    private static void loadFrontAxle() {
        StoneBeds x = withWeights(91, 90, 1);
        Check.due("load: front of 728", x.load(0), StoneBeds.NO);
        Check.due("load: front of 720", x.load(1), 0);
        Check.due("lorry: front", x.lorry(2), 720);
        Check.due("load: front of 726", x.load(2), StoneBeds.NO);
        StoneBeds y = withWeights(60, 41, 40);
        y.load(0);
        Check.due("load: front of 726 by the second", y.load(1), StoneBeds.NO);
        Check.due("load: front of 720 by the second", y.load(2), 1);
        Check.due("lorry: front of both", y.lorry(2), 720);
    }

    private static void loadRearAxle() {
        StoneBeds x = withWeights(1, 1, 1, 100, 99);
        x.load(0);
        x.load(1);
        x.load(2);
        // 1 + 3 + 5 + 7 * 102 would be 723.
        Check.due("lorry: rear of three", x.lorry(3), 9);
        Check.due("load: rear of 709 by the fourth", x.load(3), 3);
        Check.due("lorry: rear of four", x.lorry(3), 709);
        StoneBeds y = withWeights(2, 1, 5, 99, 98);
        y.load(0);
        y.load(1);
        y.load(2);
        Check.due("load: rear of 723 by the fourth", y.load(3), StoneBeds.NO);
        Check.due("load: rear of 716 by the fourth", y.load(4), 3);
        StoneBeds w = withWeights(1, 5, 1, 100);
        w.load(0);
        w.load(1);
        w.load(2);
        Check.due("load: rear of 721 by the fourth", w.load(3), StoneBeds.NO);
        StoneBeds z = withWeights(1, 3, 2, 100);
        z.load(0);
        z.load(1);
        z.load(2);
        Check.due("load: rear of 720 by the fourth", z.load(3), 3);
        Check.due("lorry: rear at its most", z.lorry(3), 720);
    }

    private static void loadLaysBare() {
        StoneBeds x = Check.yard(3);
        x.change(0, 6, 0, 10);
        x.change(1, 6, 0, 10);
        Check.due("load: lays two bare", x.load(0), 0);
        Check.due("load: the first is struck", x.told(1, 4), 5);
        Check.due("load: the second is struck", x.told(0, 4), 5);
        Check.due("load: the stack is empty", x.at(0, 0), StoneBeds.NONE);
    }

    private static void go() {
        StoneBeds x = withWeights(10, 20, 30);
        Check.due("go: empty", x.go(), StoneBeds.NO);
        Check.due("go: no trip", x.count(2), 0);
        x.load(2);
        x.load(1);
        Check.due("go: two", x.go(), 2);
        Check.due("go: a trip", x.count(2), 1);
        Check.due("go: away", x.told(2, 4), 4);
        Check.due("go: by the first trip", x.told(2, 5), 0);
        for (int what = 0; what < 4; what++) {
            Check.due("go: the next lorry, " + what, x.lorry(what), 0);
        }
        Check.due("go: the next lorry is right", x.lorry(4), 1);
        Check.due("go: again", x.go(), StoneBeds.NO);
        Check.due("go: the next lorry has place 0", x.load(0), 0);
        Check.due("go: one", x.go(), 1);
        Check.due("go: by the second trip", x.told(0, 5), 1);
        Check.due("go: none is on the lorry", x.count(10), 0);
    }

    private static void lorry() {
        StoneBeds x = withWeights(10);
        Check.due("lorry: what 5", x.lorry(5), StoneBeds.BAD);
        for (int o : OUTSIDE) {
            Check.due("lorry: what " + o, x.lorry(o), StoneBeds.BAD);
        }
    }

    private static void right() {
        StoneBeds x = withWeights(10, 10, 10, 10);
        int[] needs = {1000, 5, 5, 4};
        for (int i = 0; i < needs.length; i++) {
            x.need(i, needs[i]);
            x.load(i);
            Check.due("lorry: right with " + (i + 1), x.lorry(4), 1);
        }
        x.need(3, 6);
        Check.due("lorry: the last one's need is too great", x.lorry(4), 0);
        x.need(3, 5);
        Check.due("lorry: like needs are right", x.lorry(4), 1);
        x.need(0, 4);
        Check.due("lorry: the first one's need is too small", x.lorry(4), 0);
    }
}
