/** Promises 1, 2, 3, 16 and 19: PARTS, and what is told of them. */
public final class PartsTest {
    private static final int[] OUTSIDE = {Integer.MIN_VALUE, -1, Integer.MAX_VALUE};

    public static void main(String[] args) {
        newObject();
        part();
        partIsFull();
        need();
        needWhereverThePartIs();
        told();
        toldWhereItIs();
        count();
        Check.end("PartsTest");
    }

    private static void newObject() {
        StoneBeds x = new StoneBeds();
        for (int what = 0; what <= 10; what++) {
            Check.due("new: count(" + what + ")", x.count(what), 0);
        }
        for (int bed = 0; bed < 3; bed++) {
            for (int what = 0; what < 4; what++) {
                Check.due("new: bed(" + bed + ", " + what + ")", x.bed(bed, what), 0);
            }
        }
        for (int stack = 0; stack < 5; stack++) {
            for (int i = 0; i < 4; i++) {
                Check.due("new: at(" + stack + ", " + i + ")", x.at(stack, i), StoneBeds.NONE);
            }
        }
        for (int what = 0; what < 4; what++) {
            Check.due("new: lorry(" + what + ")", x.lorry(what), 0);
        }
        Check.due("new: lorry(4)", x.lorry(4), 1);
        Check.due("new: warmth(0)", x.warmth(0), 15);
        StoneBeds other = new StoneBeds();
        other.part(1, 1, 1);
        Check.due("one object is not another", x.count(0), 0);
    }

    private static void part() {
        StoneBeds x = new StoneBeds();
        Check.due("part: least", x.part(1, 0, 1), 0);
        Check.due("part: most", x.part(200, 7, 100), 1);
        int[][] bad = {{0, 0, 1}, {201, 0, 1}, {1, -1, 1}, {1, 8, 1}, {1, 0, 0}, {1, 0, 101}};
        String before = Check.all(x);
        for (int[] b : bad) {
            Check.due("part: bad", x.part(b[0], b[1], b[2]), StoneBeds.BAD);
        }
        for (int o : OUTSIDE) {
            Check.due("part: length " + o, x.part(o, 0, 1), StoneBeds.BAD);
            Check.due("part: plan " + o, x.part(1, o, 1), StoneBeds.BAD);
            Check.due("part: weight " + o, x.part(1, 0, o), StoneBeds.BAD);
        }
        Check.holds("part: bad ones change nothing", before.equals(Check.all(x)));
        Check.due("part: the next", x.part(5, 5, 5), 2);
    }

    private static void partIsFull() {
        StoneBeds x = new StoneBeds();
        for (int i = 0; i < 40; i++) {
            Check.due("part: " + i, x.part(1 + i, i % 8, 1 + i), i);
        }
        Check.due("part: a 41st", x.part(1, 0, 1), StoneBeds.FULL);
        Check.due("part: bad ahead of full", x.part(0, 0, 1), StoneBeds.BAD);
        Check.due("part: the last", x.told(39, 0), 40);
        Check.due("part: none behind it", x.told(40, 0), StoneBeds.BAD);
        Check.due("part: how many", x.count(0), 40);
    }

    private static void need() {
        StoneBeds x = new StoneBeds();
        Check.due("need: of none", x.need(0, 1), StoneBeds.BAD);
        x.part(1, 0, 1);
        Check.due("need: first", x.need(0, 1000), 0);
        Check.due("need: too great", x.need(0, 1001), StoneBeds.BAD);
        Check.due("need: too small", x.need(0, -1), StoneBeds.BAD);
        Check.due("need: next part", x.need(1, 1), StoneBeds.BAD);
        for (int o : OUTSIDE) {
            Check.due("need: part " + o, x.need(o, 1), StoneBeds.BAD);
            Check.due("need: number " + o, x.need(0, o), StoneBeds.BAD);
        }
        Check.due("need: told", x.told(0, 3), 1000);
        Check.due("need: what it was", x.need(0, 0), 1000);
        Check.due("need: what it was then", x.need(0, 7), 0);
    }

    private static void needWhereverThePartIs() {
        StoneBeds x = Check.loose(3, 10, 10);
        x.stack(0, 0);
        x.load(0);
        x.go();
        x.change(1, 11, 0, 10);
        Check.due("need: of one away", x.need(0, 3), 0);
        Check.due("need: of one struck", x.need(1, 4), 0);
        Check.due("need: of one loose", x.need(2, 5), 0);
        Check.due("need: told of one away", x.told(0, 3), 3);
        Check.due("need: told of one struck", x.told(1, 3), 4);
    }

    private static void told() {
        StoneBeds x = new StoneBeds();
        Check.due("told: of none", x.told(0, 0), StoneBeds.BAD);
        x.part(12, 3, 45);
        x.need(0, 67);
        int[] due = {12, 3, 45, 67, 0, StoneBeds.NONE, 0, 0};
        for (int what = 0; what < due.length; what++) {
            Check.due("told(0, " + what + ")", x.told(0, what), due[what]);
        }
        Check.due("told: what 8", x.told(0, 8), StoneBeds.BAD);
        Check.due("told: next part", x.told(1, 0), StoneBeds.BAD);
        for (int o : OUTSIDE) {
            Check.due("told: part " + o, x.told(o, 0), StoneBeds.BAD);
            Check.due("told: what " + o, x.told(0, o), StoneBeds.BAD);
        }
    }

    private static void toldWhereItIs() {
        StoneBeds x = new StoneBeds();
        Check.draw(x, 2, 50, 10);
        is(x, "drawn", 0, StoneBeds.NONE);
        x.cast(2, 0, 3);
        is(x, "cast", 1, 2);
        Check.due("told: no camber before it is let go", x.told(0, 6), 0);
        x.hours(20);
        x.letGo(2);
        is(x, "loose", 2, StoneBeds.NONE);
        Check.due("told: camber", x.told(0, 6), 50 * 50 / 1500);
        x.stack(0, 4);
        is(x, "in the yard", 3, 4);
        x.move(4, 1);
        is(x, "moved", 3, 1);
        x.load(1);
        is(x, "on the lorry", 6, StoneBeds.NONE);
        x.go();
        is(x, "away", 4, 0);
        x.stack(1, 0);
        x.load(0);
        x.go();
        Check.due("told: the trip of the other", x.told(1, 5), 1);
        is(x, "still away by the first", 4, 0);
    }

    private static void is(StoneBeds x, String name, int where, int number) {
        Check.due("told: where, " + name, x.told(0, 4), where);
        Check.due("told: number, " + name, x.told(0, 5), number);
    }

    private static void count() {
        StoneBeds x = Check.loose(6, 10, 5);
        Check.draw(x, 3, 10, 5);
        x.cast(1, 6, 1);
        x.stack(0, 0);
        x.stack(1, 0);
        x.stack(2, 0);
        x.load(0);
        x.go();
        x.load(0);
        x.change(3, 11, 0, 5);
        int[] due = {10, 20, 1, 2, 3, 1, 2, 1, 1, 1, 1};
        for (int what = 0; what < due.length; what++) {
            Check.due("count(" + what + ")", x.count(what), due[what]);
        }
        Check.due("count(11)", x.count(11), StoneBeds.BAD);
        for (int o : OUTSIDE) {
            Check.due("count(" + o + ")", x.count(o), StoneBeds.BAD);
        }
    }
}
