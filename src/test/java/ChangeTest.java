/** Promise 15: a CHANGE. */
public final class ChangeTest {
    private static final int[] OUTSIDE = {Integer.MIN_VALUE, -1, Integer.MAX_VALUE};

    public static void main(String[] args) {
        bad();
        asItWas();
        drawn();
        looseIsCut();
        looseIsStruck();
        onABed();
        inTheYard();
        onTopOfOnesToBeStruck();
        beyondChange();
        full();
        Check.end("ChangeTest");
    }

    private static void is(StoneBeds x, String name, int part, int... told) {
        for (int what = 0; what < told.length; what++) {
            Check.due("change: " + name + ", told " + what, x.told(part, what), told[what]);
        }
    }

    private static void bad() {
        StoneBeds x = new StoneBeds();
        Check.due("change: no part", x.change(0, 1, 1, 1), StoneBeds.BAD);
        x.part(10, 0, 10);
        String before = Check.all(x);
        int[][] bad = {{0, 0, 1}, {201, 0, 1}, {1, -1, 1}, {1, 8, 1}, {1, 0, 0}, {1, 0, 101}};
        for (int[] b : bad) {
            Check.due("change: bad", x.change(0, b[0], b[1], b[2]), StoneBeds.BAD);
        }
        for (int o : OUTSIDE) {
            Check.due("change: part " + o, x.change(o, 1, 0, 1), StoneBeds.BAD);
            Check.due("change: length " + o, x.change(0, o, 0, 1), StoneBeds.BAD);
            Check.due("change: plan " + o, x.change(0, 1, o, 1), StoneBeds.BAD);
            Check.due("change: weight " + o, x.change(0, 1, 0, o), StoneBeds.BAD);
        }
        Check.holds("change: bad ones change nothing", before.equals(Check.all(x)));
    }

    private static void asItWas() {
        StoneBeds x = Check.loose(3, 10, 10);
        Check.draw(x, 2, 10, 10);
        x.stack(0, 0);
        x.stack(1, 0);
        x.cast(0, 3, 1);
        String before = Check.all(x);
        for (int part = 0; part < 5; part++) {
            Check.due("change: as it was, part " + part, x.change(part, 10, 0, 10), 2);
        }
        Check.holds("change: as it was changes nothing", before.equals(Check.all(x)));
    }

    private static void drawn() {
        StoneBeds x = new StoneBeds();
        x.part(10, 0, 10);
        x.need(0, 9);
        Check.due("change: drawn, greater", x.change(0, 200, 7, 100), 0);
        is(x, "drawn, greater", 0, 200, 7, 100, 9, 0, StoneBeds.NONE, 0, 0);
        Check.due("change: drawn, less", x.change(0, 1, 7, 1), 0);
        is(x, "drawn, less", 0, 1, 7, 1, 9, 0);
        Check.due("change: drawn, no new one", x.count(0), 1);
    }

    private static void looseIsCut() {
        StoneBeds x = Check.loose(1, 100, 10);
        x.need(0, 9);
        int camber = 100 * 100 / 1500;
        Check.due("change: cut", x.change(0, 99, 0, 10), 1);
        is(x, "cut", 0, 99, 0, 10, 9, 2, StoneBeds.NONE, camber, 0);
        Check.due("change: cut again", x.change(0, 1, 0, 1), 1);
        is(x, "cut again", 0, 1, 0, 1, 9, 2, StoneBeds.NONE, camber, 0);
        Check.due("change: cut, no new one", x.count(0), 1);
    }

    private static void looseIsStruck() {
        int[][] news = {{100, 0, 9}, {100, 0, 11}, {99, 0, 11}, {101, 0, 10}, {101, 0, 9}, {99, 1, 9}, {100, 1, 10}};
        for (int[] to : news) {
            StoneBeds x = Check.loose(2, 100, 10);
            x.need(1, 77);
            Check.due("change: loose, new", x.change(1, to[0], to[1], to[2]), 102);
            is(x, "loose, the old one", 1, 100, 0, 10, 77, 5, StoneBeds.NONE, 6, 0);
            is(x, "loose, the new one", 2, to[0], to[1], to[2], 77, 0, StoneBeds.NONE, 0, 0);
            Check.due("change: the other is as it was", x.told(0, 4), 2);
        }
    }

    private static void onABed() {
        StoneBeds x = new StoneBeds();
        Check.draw(x, 3, 100, 10);
        x.cast(1, 0, 3);
        String before = Check.all(x);
        Check.due("change: less, on a bed", x.change(0, 99, 0, 10), StoneBeds.NO);
        Check.holds("change: no changes nothing", before.equals(Check.all(x)));
        Check.due("change: lighter alone, on a bed", x.change(0, 100, 0, 9), 103);
        is(x, "on a bed", 0, 100, 0, 10, 0, 1, 1, 0, 1);
        Check.due("change: the bed is as it was", x.bed(1, 1), 204);
        Check.due("change: the bed's parts", x.bed(1, 0), 2);
        Check.due("change: to be struck", x.change(0, 100, 0, 8), StoneBeds.NO);
        Check.due("change: to be struck, as it was", x.change(0, 100, 0, 10), StoneBeds.NO);
        x.hours(20);
        Check.due("change: let go", x.letGo(1), 1);
        is(x, "let go", 0, 100, 0, 10, 0, 5, StoneBeds.NONE, 6, 0);
    }

    private static void inTheYard() {
        StoneBeds x = Check.yard(3, 1);
        Check.due("change: less, in the yard, on top", x.change(2, 4, 0, 10), StoneBeds.NO);
        Check.due("change: less, in the yard, beneath", x.change(0, 4, 0, 10), StoneBeds.NO);
        Check.due("change: top one", x.change(2, 5, 1, 10), 104);
        is(x, "top one", 2, 5, 0, 10, 0, 5, StoneBeds.NONE, 0, 0);
        Check.due("change: it lies there no more", x.at(0, 2), StoneBeds.NONE);
        Check.due("change: lower one", x.change(0, 6, 0, 10), 105);
        is(x, "lower one", 0, 5, 0, 10, 0, 3, 0, 0, 1);
        Check.due("change: it lies there still", x.at(0, 0), 0);
        Check.due("change: lower one again", x.change(0, 5, 0, 10), StoneBeds.NO);
        Check.due("change: alone on a stack", x.change(3, 6, 0, 10), 106);
        Check.due("change: that stack is empty", x.at(1, 0), StoneBeds.NONE);
    }

    private static void onTopOfOnesToBeStruck() {
        StoneBeds x = Check.yard(4);
        x.change(2, 6, 0, 10);
        x.change(0, 6, 0, 10);
        Check.due("change: the top one", x.change(3, 6, 0, 10), 106);
        Check.due("change: the one beneath goes too", x.told(2, 4), 5);
        Check.due("change: the one that stays", x.told(1, 4), 3);
        Check.due("change: the lowest is still to be struck", x.told(0, 7), 1);
        Check.due("change: the next top one", x.change(1, 6, 0, 10), 107);
        Check.due("change: the lowest goes too", x.told(0, 4), 5);
        Check.due("change: none is left", x.count(7), 0);
        Check.due("change: four are struck", x.count(9), 4);
    }

    private static void beyondChange() {
        StoneBeds x = Check.loose(3, 10, 10);
        x.stack(0, 0);
        x.stack(1, 0);
        x.load(0);
        x.go();
        x.load(0);
        x.change(2, 11, 0, 10);
        String before = Check.all(x);
        String[] names = {"on the lorry", "away", "struck"};
        for (int part = 0; part < 3; part++) {
            Check.due("change: " + names[part], x.change(part, 9, 0, 9), StoneBeds.NO);
            Check.due("change: as it was, " + names[part], x.change(part, 10, 0, 10), StoneBeds.NO);
            Check.due("change: greater, " + names[part], x.change(part, 99, 3, 99), StoneBeds.NO);
            Check.due("change: bad, " + names[part], x.change(part, 0, 0, 9), StoneBeds.BAD);
        }
        Check.holds("change: those change nothing", before.equals(Check.all(x)));
    }

    private static void full() {
        StoneBeds x = Check.loose(4, 10, 10);
        Check.draw(x, 36, 10, 10);
        x.stack(0, 0);
        x.stack(1, 0);
        x.cast(0, 4, 1);
        String before = Check.all(x);
        Check.due("change: full, loose", x.change(2, 11, 0, 10), StoneBeds.FULL);
        Check.due("change: full, on top", x.change(1, 11, 0, 10), StoneBeds.FULL);
        Check.due("change: full, beneath", x.change(0, 11, 0, 10), StoneBeds.FULL);
        Check.due("change: full, on a bed", x.change(4, 11, 0, 10), StoneBeds.FULL);
        Check.due("change: no ahead of full", x.change(4, 9, 0, 10), StoneBeds.NO);
        Check.due("change: full, as it was", x.change(4, 10, 0, 10), 2);
        Check.holds("change: full ones change nothing", before.equals(Check.all(x)));
        Check.due("change: full, cut", x.change(2, 9, 0, 10), 1);
        Check.due("change: full, drawn", x.change(39, 11, 1, 11), 0);
    }
}
