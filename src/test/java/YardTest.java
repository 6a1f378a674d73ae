/** Promises 9, 10, 11 and 17: THE YARD. */
public final class YardTest {
    private static final int[] OUTSIDE = {Integer.MIN_VALUE, -1, Integer.MAX_VALUE};

    public static void main(String[] args) {
        stack();
        move();
        moveLaysBare();
        diggings();
        diggingsByHand();
        diggingsBad();
        diggingsNo();
        diggingsWithOnesToBeStruck();
        at();
        Check.end("YardTest");
    }

    private static void stack() {
        StoneBeds x = Check.loose(6, 10, 1);
        Check.draw(x, 1, 10, 1);
        Check.due("stack: first", x.stack(3, 2), 1);
        Check.due("stack: second", x.stack(0, 2), 2);
        Check.due("stack: on the last", x.stack(1, 4), 1);
        String before = Check.all(x);
        Check.due("stack: drawn", x.stack(6, 2), StoneBeds.NO);
        Check.due("stack: in the yard", x.stack(3, 2), StoneBeds.NO);
        Check.due("stack: no part", x.stack(7, 2), StoneBeds.BAD);
        Check.due("stack: no stack", x.stack(2, 5), StoneBeds.BAD);
        Check.due("stack: bad ahead of no", x.stack(6, 5), StoneBeds.BAD);
        for (int o : OUTSIDE) {
            Check.due("stack: part " + o, x.stack(o, 0), StoneBeds.BAD);
            Check.due("stack: stack " + o, x.stack(2, o), StoneBeds.BAD);
        }
        Check.holds("stack: refused ones change nothing", before.equals(Check.all(x)));
        x.stack(2, 2);
        Check.due("stack: fourth", x.stack(4, 2), 4);
        Check.due("stack: full", x.stack(5, 2), StoneBeds.FULL);
        Check.due("stack: no ahead of full", x.stack(6, 2), StoneBeds.NO);
        Check.due("stack: still loose", x.told(5, 4), 2);
    }

    private static void move() {
        StoneBeds x = Check.yard(2, 4, 0, 1);
        String before = Check.all(x);
        Check.due("move: from none", x.move(5, 0), StoneBeds.BAD);
        Check.due("move: to none", x.move(0, 5), StoneBeds.BAD);
        Check.due("move: the same", x.move(0, 0), StoneBeds.BAD);
        Check.due("move: the same, empty", x.move(2, 2), StoneBeds.BAD);
        for (int o : OUTSIDE) {
            Check.due("move: from " + o, x.move(o, 0), StoneBeds.BAD);
            Check.due("move: to " + o, x.move(0, o), StoneBeds.BAD);
        }
        Check.due("move: empty", x.move(2, 0), StoneBeds.NO);
        Check.due("move: empty ahead of full", x.move(2, 1), StoneBeds.NO);
        Check.due("move: full", x.move(0, 1), StoneBeds.FULL);
        Check.holds("move: refused ones change nothing", before.equals(Check.all(x)));
        Check.due("move: the top one", x.move(0, 3), 1);
        Check.due("move: it lies there", x.at(3, 1), 1);
        Check.due("move: and not here", x.at(0, 1), StoneBeds.NONE);
        Check.due("move: its stack is told", x.told(1, 5), 3);
        Check.due("move: from the full one", x.move(1, 4), 5);
        Check.due("move: to where there is room now", x.move(3, 1), 1);
        Check.due("move: part 0, not none", x.move(0, 2), 0);
    }

    private static void moveLaysBare() {
        StoneBeds x = Check.yard(4);
        x.change(0, 6, 0, 10);
        x.change(2, 6, 0, 10);
        Check.due("move: lays one bare", x.move(0, 1), 3);
        Check.due("move: that is struck", x.told(2, 4), 5);
        Check.due("move: one below stays", x.told(1, 4), 3);
        Check.due("move: one below that is still to be struck", x.told(0, 7), 1);
        Check.due("move: top is one that stays", x.move(0, 2), 1);
        Check.due("move: the last is struck", x.told(0, 4), 5);
        Check.due("move: it is no more to be struck", x.told(0, 7), 0);
        Check.due("move: the stack is empty", x.move(0, 1), StoneBeds.NO);
    }

    private static void digs(String name, StoneBeds x, int due, int... parts) {
        Check.due("diggings: " + name, x.diggings(parts.length, Check.order(parts)), due);
    }

    private static void diggings() {
        StoneBeds x = Check.yard(4, 2, 1);
        String before = Check.all(x);
        digs("none", x, 0);
        digs("a top one", x, 0, 3);
        digs("the lowest", x, 3, 0);
        digs("from above", x, 0, 3, 2, 1, 0);
        digs("from beneath", x, 3, 0, 1, 2, 3);
        digs("of two stacks", x, 4, 0, 4);
        digs("of two stacks, one from above", x, 3, 5, 4, 0);
        digs("one alone", x, 0, 6);
        Check.holds("diggings change nothing", before.equals(Check.all(x)));
    }

    private static void diggingsByHand() {
        // PART 1 goes on the one STACK where it lies on none that is wanted.
        digs("moved once", Check.yard(2, 1, 1, 1, 1), 1, 0, 2, 3, 4);
        // Each other STACK holds one that is wanted: PART 1 must be moved again.
        digs("moved twice", Check.yard(2, 1, 1, 1, 1), 2, 0, 2, 3, 4, 5);
        digs("moved twice, wanted last", Check.yard(2, 1, 1, 1, 1), 2, 0, 2, 3, 4, 5, 1);
        digs("wanted next, moved once", Check.yard(2, 1, 1, 1, 1), 1, 0, 1, 2, 3, 4, 5);
        // Only STACK 4 has room for those above PART 0.
        StoneBeds x = Check.yard(4, 4);
        x.move(1, 2);
        digs("all on one", x, 3, 0);
        // The order begins with top ones, which makes room.
        digs("top ones first", Check.yard(3, 1, 1, 1, 1), 2, 3, 4, 5, 6, 0);
    }

    private static void diggingsBad() {
        StoneBeds x = Check.yard(4, 3);
        Check.due("diggings: n -1", x.diggings(-1, 0), StoneBeds.BAD);
        Check.due("diggings: n 7", x.diggings(7, Check.order(0, 1, 2, 3, 4, 5, 6)), StoneBeds.BAD);
        for (int o : OUTSIDE) {
            Check.due("diggings: n " + o, x.diggings(o, 0), StoneBeds.BAD);
        }
        Check.due("diggings: bits above none", x.diggings(0, 1), StoneBeds.BAD);
        Check.due("diggings: bits above one", x.diggings(1, Check.order(0, 1)), StoneBeds.BAD);
        Check.due("diggings: bits above six", x.diggings(6, Check.order(0, 1, 2, 3, 4, 5) | 1L << 36), StoneBeds.BAD);
        Check.due("diggings: the last bit", x.diggings(1, Long.MIN_VALUE), StoneBeds.BAD);
        Check.due("diggings: all bits", x.diggings(6, -1L), StoneBeds.BAD);
        digs("no part", x, StoneBeds.BAD, 7);
        digs("the greatest number", x, StoneBeds.BAD, 63);
        digs("one twice", x, StoneBeds.BAD, 2, 3, 2);
        digs("all six", x, 5, 0, 1, 2, 3, 4, 5);
    }

    private static void diggingsNo() {
        StoneBeds x = Check.loose(12, 5, 1);
        for (int i = 0; i < 10; i++) {
            x.stack(i, i % 5);
        }
        digs("ten are there", x, 1, 0);
        digs("one is loose", x, StoneBeds.NO, 0, 10);
        digs("bad ahead of no", x, StoneBeds.BAD, 10, 12);
        digs("twice ahead of no", x, StoneBeds.BAD, 10, 10);
        x.stack(10, 0);
        digs("eleven are there", x, StoneBeds.NO, 0);
        digs("eleven are there, none wanted", x, StoneBeds.NO);
        digs("bad ahead of eleven", x, StoneBeds.BAD, 12);
        x.load(0);
        digs("ten again", x, 1, 0);
        digs("one is on the lorry", x, StoneBeds.NO, 10);
    }

    private static void diggingsWithOnesToBeStruck() {
        StoneBeds x = Check.yard(4, 1);
        x.change(1, 6, 0, 10);
        x.change(2, 6, 0, 10);
        digs("those to be struck are moved as others", x, 3, 0);
        digs("one to be struck can be wanted", x, 2, 1);
    }

    private static void at() {
        StoneBeds x = Check.yard(0, 3);
        for (int i = 0; i < 3; i++) {
            Check.due("at(1, " + i + ")", x.at(1, i), i);
        }
        Check.due("at: above the top", x.at(1, 3), StoneBeds.NONE);
        Check.due("at: empty", x.at(0, 0), StoneBeds.NONE);
        for (int i : new int[] {4, 5, 7, 39, 40, 63, Integer.MAX_VALUE}) {
            Check.due("at: higher than a stack can be, " + i, x.at(1, i), StoneBeds.NONE);
            Check.due("at: so high on an empty one, " + i, x.at(0, i), StoneBeds.NONE);
        }
        Check.due("at: no stack", x.at(5, 0), StoneBeds.BAD);
        Check.due("at: no stack, and no such place", x.at(5, 7), StoneBeds.BAD);
        for (int o : OUTSIDE) {
            Check.due("at: stack " + o, x.at(o, 0), StoneBeds.BAD);
            Check.due("at: both " + o, x.at(o, o), StoneBeds.BAD);
        }
        for (int i : new int[] {-1, -2, -4, Integer.MIN_VALUE}) {
            Check.due("at: below nought, " + i, x.at(1, i), StoneBeds.BAD);
            Check.due("at: below nought of an empty one, " + i, x.at(0, i), StoneBeds.BAD);
        }
        StoneBeds full = Check.yard(4);
        Check.due("at: the top of a full one", full.at(0, 3), 3);
        Check.due("at: above a full one", full.at(0, 4), StoneBeds.NONE);
        x.load(1);
        Check.due("at: what was loaded is gone", x.at(1, 2), StoneBeds.NONE);
    }
}
