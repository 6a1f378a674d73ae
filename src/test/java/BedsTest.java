/** Promises 4 to 8 and 18: casts, HOURS and letting go. */
public final class BedsTest {
    private static final int[] OUTSIDE = {Integer.MIN_VALUE, -1, Integer.MAX_VALUE};

    public static void main(String[] args) {
        casts();
        castsOfPlansApart();
        plainIsNotTheFewest();
        castsBad();
        castsAgainstAllSets();
        cast();
        castFits();
        castBits();
        castNo();
        warmth();
        hours();
        hoursFull();
        ripeness();
        letGo();
        letGoOneBed();
        camber();
        bed();
        Check.end("BedsTest");
    }

    private static StoneBeds drawn(int plan, int... lengths) {
        StoneBeds x = new StoneBeds();
        for (int length : lengths) {
            x.part(length, plan, 1);
        }
        return x;
    }

    private static void castsAre(String name, StoneBeds x, int from, int to, int fewest, int plain) {
        Check.due("casts: fewest, " + name, x.casts(from, to, 0), fewest);
        Check.due("casts: plain, " + name, x.casts(from, to, 1), plain);
    }

    private static void casts() {
        castsAre("one", drawn(0, 200), 0, 0, 1, 1);
        castsAre("just fit", drawn(0, 148, 148), 0, 1, 1, 1);
        castsAre("just not", drawn(0, 148, 149), 0, 1, 2, 2);
        castsAre("three with two joints", drawn(0, 98, 97, 97), 0, 2, 1, 1);
        castsAre("three by one too long", drawn(0, 98, 98, 97), 0, 2, 2, 2);
        StoneBeds x = drawn(0, 148, 148, 148);
        castsAre("a part of the range", x, 1, 2, 1, 1);
        x.cast(0, 0, 1);
        castsAre("only the drawn", x, 0, 2, 1, 1);
        x.cast(1, 1, 3);
        castsAre("none drawn", x, 0, 2, 0, 0);
    }

    private static void castsOfPlansApart() {
        StoneBeds x = new StoneBeds();
        for (int plan = 0; plan < 8; plan++) {
            x.part(10, plan, 1);
        }
        castsAre("eight plans", x, 0, 7, 8, 8);
        x.part(10, 7, 1);
        castsAre("two of the last plan", x, 0, 8, 8, 8);
    }

    private static void plainIsNotTheFewest() {
        castsAre("longest first is worse", drawn(2, 146, 96, 96, 96, 71, 71), 0, 5, 2, 3);
        castsAre("in another order", drawn(2, 71, 96, 146, 96, 71, 96), 0, 5, 2, 3);
        castsAre("on the first that fits", drawn(3, 120, 180, 110, 60), 0, 3, 2, 2);
        castsAre("two that are just full", drawn(4, 146, 73, 73, 96, 98, 98), 0, 5, 2, 3);
        StoneBeds x = new StoneBeds();
        for (int plan = 5; plan < 7; plan++) {
            for (int length : new int[] {146, 96, 96, 96, 71, 71}) {
                x.part(length, plan, 1);
            }
        }
        castsAre("of two plans", x, 0, 11, 4, 6);
    }

    private static void castsBad() {
        StoneBeds x = new StoneBeds();
        Check.due("casts: of none", x.casts(0, 0, 0), StoneBeds.BAD);
        Check.draw(x, 13, 1, 1);
        castsAre("twelve", x, 0, 11, 1, 1);
        castsAre("the last twelve", x, 1, 12, 1, 1);
        castsAre("thirteen", x, 0, 12, StoneBeds.BAD, StoneBeds.BAD);
        castsAre("to none", x, 5, 13, StoneBeds.BAD, StoneBeds.BAD);
        castsAre("falling", x, 5, 4, StoneBeds.BAD, StoneBeds.BAD);
        Check.due("casts: what 2", x.casts(0, 1, 2), StoneBeds.BAD);
        for (int o : OUTSIDE) {
            Check.due("casts: from " + o, x.casts(o, 1, 0), StoneBeds.BAD);
            Check.due("casts: to " + o, x.casts(0, o, 0), StoneBeds.BAD);
            Check.due("casts: what " + o, x.casts(0, 1, o), StoneBeds.BAD);
        }
        x.cast(0, 4, 1);
        castsAre("twelve of thirteen are drawn", x, 0, 12, 1, 1);
    }

    /** The fewest are looked for here by trying all sets, one after the other. */
    private static void castsAgainstAllSets() {
        long seed = 12345;
        for (int round = 0; round < 400; round++) {
            int n = 1 + round % 9;
            int[] lengths = new int[n];
            for (int i = 0; i < n; i++) {
                seed = seed * 6364136223846793005L + 1442695040888963407L;
                int spread = (int) (seed >>> 40 & 0xffff);
                lengths[i] = round % 2 == 0 ? 60 + spread % 60 : 1 + spread % 200;
            }
            StoneBeds x = drawn(round % 8, lengths);
            Check.due("casts: all sets, round " + round, x.casts(0, n - 1, 0), fewest(lengths, (1 << n) - 1, new int[1 << n]));
        }
    }

    private static int fewest(int[] lengths, int left, int[] known) {
        if (left == 0) {
            return 0;
        }
        if (known[left] == 0) {
            int least = Integer.MAX_VALUE;
            int lowest = left & -left;
            for (int set = left; set != 0; set = set - 1 & left) {
                if ((set & lowest) != 0 && fits(lengths, set)) {
                    least = Math.min(least, 1 + fewest(lengths, left & ~set, known));
                }
            }
            known[left] = least;
        }
        return known[left];
    }

    private static boolean fits(int[] lengths, int set) {
        int sum = 0;
        for (int i = 0; i < lengths.length; i++) {
            sum += (set >> i & 1) * lengths[i];
        }
        return sum + 4 * (Integer.bitCount(set) - 1) <= 300;
    }

    private static void cast() {
        StoneBeds x = new StoneBeds();
        Check.due("cast: of none", x.cast(0, 0, 1), StoneBeds.BAD);
        Check.draw(x, 5, 20, 1);
        String before = Check.all(x);
        Check.due("cast: no bits", x.cast(0, 0, 0), StoneBeds.BAD);
        Check.due("cast: bed 3", x.cast(3, 0, 1), StoneBeds.BAD);
        Check.due("cast: a bit of no part", x.cast(0, 0, 33), StoneBeds.BAD);
        Check.due("cast: a bit of no part, from on", x.cast(0, 4, 3), StoneBeds.BAD);
        Check.due("cast: the last bit of no part", x.cast(0, 0, Integer.MIN_VALUE), StoneBeds.BAD);
        Check.due("cast: from behind the last", x.cast(0, 5, 1), StoneBeds.BAD);
        Check.due("cast: from ahead of the first", x.cast(0, -1, 2), StoneBeds.BAD);
        for (int o : OUTSIDE) {
            Check.due("cast: bed " + o, x.cast(o, 0, 1), StoneBeds.BAD);
            Check.due("cast: from " + o, x.cast(0, o, 1), StoneBeds.BAD);
        }
        Check.holds("cast: bad ones change nothing", before.equals(Check.all(x)));
        Check.due("cast: of two", x.cast(0, 1, 5), 2);
        Check.due("cast: one is", x.told(1, 4), 1);
        Check.due("cast: one between is not", x.told(2, 4), 0);
        Check.due("cast: another is", x.told(3, 4), 1);
        Check.due("cast: casts", x.count(3), 1);
        Check.due("cast: bad ahead of no", x.cast(0, 1, 64), StoneBeds.BAD);
        Check.due("cast: on the last bed", x.cast(2, 4, 1), 1);
        Check.due("cast: casts then", x.count(3), 2);
    }

    private static void castFits() {
        Check.due("cast: just fit", drawn(0, 148, 148).cast(0, 0, 3), 2);
        Check.due("cast: just not", drawn(0, 148, 149).cast(0, 0, 3), StoneBeds.NO);
        Check.due("cast: three just fit", drawn(1, 100, 92, 100).cast(0, 0, 7), 3);
        Check.due("cast: three just not", drawn(1, 100, 93, 100).cast(0, 0, 7), StoneBeds.NO);
        StoneBeds x = new StoneBeds();
        x.part(10, 0, 1);
        x.part(10, 1, 1);
        x.part(10, 0, 1);
        Check.due("cast: two plans", x.cast(0, 0, 7), StoneBeds.NO);
        Check.due("cast: one plan", x.cast(0, 0, 5), 2);
    }

    private static void castBits() {
        StoneBeds x = new StoneBeds();
        Check.draw(x, 40, 5, 1);
        Check.due("cast: bits beyond the parts", x.cast(0, 9, -1), StoneBeds.BAD);
        Check.due("cast: 32", x.cast(0, 8, -1), 32);
        Check.due("cast: 32, length", x.bed(0, 1), 32 * 5 + 31 * 4);
        Check.due("cast: the first of them", x.told(8, 4), 1);
        Check.due("cast: the last of them", x.told(39, 4), 1);
        Check.due("cast: the one ahead", x.told(7, 4), 0);
        Check.due("cast: bit 31 alone is not drawn", x.cast(1, 0, Integer.MIN_VALUE), StoneBeds.NO);
        StoneBeds y = new StoneBeds();
        Check.draw(y, 32, 5, 1);
        Check.due("cast: bit 31 alone", y.cast(1, 0, Integer.MIN_VALUE), 1);
        Check.due("cast: bit 31 is part 31", y.told(31, 4), 1);
    }

    private static void castNo() {
        StoneBeds x = new StoneBeds();
        Check.draw(x, 6, 20, 1);
        x.cast(0, 0, 3);
        String before = Check.all(x);
        Check.due("cast: the bed is not empty", x.cast(0, 2, 1), StoneBeds.NO);
        Check.due("cast: one is cast, the last", x.cast(1, 0, 5), StoneBeds.NO);
        Check.due("cast: one is cast", x.cast(1, 1, 3), StoneBeds.NO);
        Check.holds("cast: no changes nothing", before.equals(Check.all(x)));
        StoneBeds one = drawn(0, 10, 10);
        one.cast(0, 0, 1);
        Check.due("cast: one alone is on the bed", one.cast(0, 1, 1), StoneBeds.NO);
        x.hours(20);
        x.letGo(0);
        Check.due("cast: one is loose", x.cast(1, 1, 3), StoneBeds.NO);
        Check.due("cast: on the bed again", x.cast(0, 2, 3), 2);
        Check.due("cast: ripeness begins anew", x.bed(0, 2), 0);
        Check.due("cast: hours begin anew", x.bed(0, 3), 0);
        Check.due("cast: its length alone", x.bed(0, 1), 44);
    }

    private static void warmth() {
        StoneBeds x = new StoneBeds();
        Check.due("warmth: too cold", x.warmth(-21), -100);
        Check.due("warmth: too warm", x.warmth(61), -100);
        for (int o : new int[] {Integer.MIN_VALUE, Integer.MAX_VALUE}) {
            Check.due("warmth: " + o, x.warmth(o), -100);
        }
        Check.due("warmth: first", x.warmth(-20), 15);
        Check.due("warmth: coldest", x.warmth(60), -20);
        Check.due("warmth: warmest", x.warmth(-1), 60);
        Check.due("warmth: below 0 is what it was", x.warmth(0), -1);
    }

    private static void hours() {
        StoneBeds x = new StoneBeds();
        Check.due("hours: none", x.hours(0), StoneBeds.BAD);
        Check.due("hours: 201", x.hours(201), StoneBeds.BAD);
        for (int o : OUTSIDE) {
            Check.due("hours: " + o, x.hours(o), StoneBeds.BAD);
        }
        Check.due("hours: one", x.hours(1), 1);
        Check.due("hours: 200", x.hours(200), 201);
        Check.due("hours: counted", x.count(1), 201);
    }

    private static void hoursFull() {
        StoneBeds x = new StoneBeds();
        x.part(10, 0, 1);
        for (int i = 0; i < 499; i++) {
            x.hours(200);
        }
        x.hours(199);
        x.cast(0, 0, 1);
        Check.due("hours: bad ahead of full", x.hours(201), StoneBeds.BAD);
        Check.due("hours: beyond the last", x.hours(2), StoneBeds.FULL);
        Check.due("hours: none has gone by", x.bed(0, 2), 0);
        Check.due("hours: the last", x.hours(1), 100000);
        Check.due("hours: one more", x.hours(1), StoneBeds.FULL);
        Check.due("hours: still", x.count(1), 100000);
        Check.due("hours: ripeness of the last", x.bed(0, 2), 25);
    }

    private static void ripeness() {
        int[][] warmAndGrown = {{-20, 0}, {-11, 0}, {-10, 0}, {-9, 1}, {0, 10}, {15, 25}, {60, 70}};
        for (int[] w : warmAndGrown) {
            StoneBeds x = drawn(0, 10, 10);
            x.warmth(w[0]);
            x.hours(5);
            x.cast(1, 0, 1);
            x.hours(3);
            x.cast(2, 1, 1);
            x.hours(4);
            Check.due("ripeness at " + w[0], x.bed(1, 2), 7 * w[1]);
            Check.due("ripeness at " + w[0] + ", cast later", x.bed(2, 2), 4 * w[1]);
            Check.due("ripeness at " + w[0] + ", empty", x.bed(0, 2), 0);
        }
        StoneBeds x = drawn(0, 10);
        x.cast(0, 0, 1);
        x.hours(2);
        x.warmth(-20);
        x.hours(100);
        x.warmth(5);
        x.hours(3);
        Check.due("ripeness by the warmth of each hour", x.bed(0, 2), 2 * 25 + 3 * 15);
    }

    private static void letGo() {
        StoneBeds x = drawn(0, 10, 20, 30);
        Check.due("letGo: bed 3", x.letGo(3), StoneBeds.BAD);
        for (int o : OUTSIDE) {
            Check.due("letGo: bed " + o, x.letGo(o), StoneBeds.BAD);
        }
        Check.due("letGo: empty", x.letGo(0), StoneBeds.NO);
        x.cast(0, 0, 7);
        x.hours(19);
        String before = Check.all(x);
        Check.due("letGo: at 475", x.letGo(0), StoneBeds.NO);
        Check.holds("letGo: no changes nothing", before.equals(Check.all(x)));
        x.hours(1);
        Check.due("letGo: at 500", x.letGo(0), 3);
        Check.due("letGo: again", x.letGo(0), StoneBeds.NO);
        x = drawn(0, 10);
        x.warmth(60);
        x.cast(0, 0, 1);
        x.hours(11);
        Check.due("letGo: 11 hours", x.letGo(0), StoneBeds.NO);
        x.hours(1);
        Check.due("letGo: 12 hours", x.letGo(0), 1);
        x.part(10, 0, 1);
        x.cast(0, 1, 1);
        x.hours(11);
        Check.due("letGo: 11 hours, cast at hour 12", x.letGo(0), StoneBeds.NO);
        x = drawn(0, 10);
        x.warmth(-9);
        x.cast(0, 0, 1);
        x.hours(200);
        x.hours(200);
        x.hours(99);
        Check.due("letGo: at 499", x.letGo(0), StoneBeds.NO);
        x.hours(1);
        Check.due("letGo: at 500, slowly", x.letGo(0), 1);
    }

    private static void letGoOneBed() {
        StoneBeds x = drawn(0, 10, 20, 30, 40);
        x.cast(0, 0, 3);
        x.cast(1, 2, 3);
        x.change(2, 99, 0, 1);
        x.hours(20);
        Check.due("letGo: the struck one is not loose", x.letGo(1), 1);
        Check.due("letGo: on the other bed", x.told(0, 4), 1);
        Check.due("letGo: struck", x.told(2, 4), 5);
        Check.due("letGo: struck one is nowhere", x.told(2, 5), StoneBeds.NONE);
        Check.due("letGo: it is struck, not to be", x.told(2, 7), 0);
        Check.due("letGo: loose", x.told(3, 4), 2);
        Check.due("letGo: empty then", x.bed(1, 0), 0);
        Check.due("letGo: the other bed", x.bed(0, 0), 2);
    }

    private static void camber() {
        StoneBeds x = new StoneBeds();
        x.part(200, 7, 1);
        x.part(90, 7, 1);
        x.cast(0, 0, 3);
        x.hours(20);
        x.letGo(0);
        Check.due("camber: greatest", x.told(0, 6), 200 * 200 * 8 / 1500);
        Check.due("camber: of each by its length", x.told(1, 6), 90 * 90 * 8 / 1500);
        x.part(100, 2, 1);
        x.warmth(3);
        x.cast(1, 2, 1);
        x.hours(57);
        x.letGo(1);
        Check.due("camber: by ripeness", x.told(2, 6), 30000 / (57 * 13 + 1000));
        x.part(150, 0, 1);
        x.part(57, 5, 1);
        x.cast(2, 3, 1);
        x.cast(1, 4, 1);
        x.warmth(15);
        x.hours(20);
        x.letGo(2);
        Check.due("camber: without a rest", x.told(3, 6), 15);
        x.letGo(1);
        Check.due("camber: cut, 19494 by 1500", x.told(4, 6), 12);
        x.change(2, 50, 2, 1);
        Check.due("camber: as it was let go, also when it is cut", x.told(2, 6), 30000 / (57 * 13 + 1000));
    }

    private static void bed() {
        StoneBeds x = drawn(0, 10, 20, 30, 40);
        x.hours(7);
        x.cast(1, 0, 7);
        x.cast(0, 3, 1);
        Check.due("bed: one part has no joint", x.bed(0, 1), 40);
        Check.due("bed: one part", x.bed(0, 0), 1);
        x.hours(200);
        int[] due = {3, 68, 5000, 200};
        for (int what = 0; what < due.length; what++) {
            Check.due("bed(1, " + what + ")", x.bed(1, what), due[what]);
        }
        x.letGo(1);
        for (int what = 0; what < due.length; what++) {
            Check.due("bed: empty, " + what, x.bed(1, what), 0);
        }
        x.hours(9);
        Check.due("bed: empty, ripeness", x.bed(1, 2), 0);
        Check.due("bed: empty, hours", x.bed(1, 3), 0);
        Check.due("bed: what 4", x.bed(0, 4), StoneBeds.BAD);
        Check.due("bed: bed 3", x.bed(3, 0), StoneBeds.BAD);
        for (int o : OUTSIDE) {
            Check.due("bed: bed " + o, x.bed(o, 0), StoneBeds.BAD);
            Check.due("bed: what " + o, x.bed(0, o), StoneBeds.BAD);
        }
    }
}
