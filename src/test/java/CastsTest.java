import java.util.Arrays;

/** Promises 4 and 5: what FITS a BED, THE FEWEST CASTS, THE PLAIN number, and CASTS. */
public final class CastsTest {
    /** Numbers of no PART where there are 21. */
    private static final int[] NO_PARTS = Check.join(Check.outside(0, 20), 22, 31, 32, 39, 40, 41, 63);

    public static void main(String[] args) {
        lengthsThatFit();
        manyThatFit();
        plansThatFit();
        castsFromAndTo();
        castsWhat();
        castsOfDrawnOnes();
        twelveAtMost();
        castsOfPlansApart();
        plainNumber();
        plainTakesTheLongestFirst();
        castsChangeNothing();
        fewestAgainstAllSets();
        castOnABed();
        castFrom();
        castBits();
        castBitsOfNoPart();
        castOfDrawnOnes();
        castOnAnEmptyBed();
        castBadIsAheadOfNo();
        castAgain();
        Check.end("CastsTest");
    }

    /** Told by all three who ask what FITS: a cast, THE FEWEST CASTS and THE PLAIN number. */
    private static void fits(String name, Scene drawn, int n, boolean due) {
        int bits = n == 32 ? -1 : (1 << n) - 1;
        if (due) {
            drawn.due("cast: " + name, n, x -> x.cast(0, 0, bits));
        } else {
            drawn.refuses("cast: " + name, StoneBeds.NO, x -> x.cast(0, 0, bits));
        }
        if (n <= 12) {
            drawn.due("casts: fewest, " + name, due ? 1 : 2, x -> x.casts(0, n - 1, 0));
            drawn.due("casts: plain, " + name, due ? 1 : 2, x -> x.casts(0, n - 1, 1));
        }
    }

    /** "a length of 300 each; a JOINT is 4"; "come to no more than its length" */
    private static void lengthsThatFit() {
        fits("one of 200", Scene.drawn(0, 200), 1, true);
        fits("two, 300", Scene.drawn(0, 148, 148), 2, true);
        fits("two, 301", Scene.drawn(0, 148, 149), 2, false);
        fits("two, 300, the longest", Scene.drawn(3, 200, 96), 2, true);
        fits("two, 301, the longest", Scene.drawn(3, 97, 200), 2, false);
        fits("three, 300", Scene.drawn(7, 100, 92, 100), 3, true);
        fits("three, 301", Scene.drawn(7, 100, 93, 100), 3, false);
        fits("four, 300", Scene.drawn(1, 72, 72, 72, 72), 4, true);
        fits("four, 301", Scene.drawn(1, 72, 73, 72, 72), 4, false);
    }

    private static void manyThatFit() {
        int[] twelve = new int[12];
        Arrays.fill(twelve, 21);
        twelve[5] = 25;
        fits("twelve, 300", Scene.drawn(0, twelve), 12, true);
        twelve[11] = 22;
        fits("twelve, 301", Scene.drawn(0, twelve), 12, false);
        int[] most = new int[32];
        Arrays.fill(most, 5);
        most[31] = 21;
        fits("32, 300", Scene.drawn(0, most), 32, true);
        most[0] = 6;
        fits("32, 301", Scene.drawn(0, most), 32, false);
    }

    /** "if all have one PLAN" */
    private static void plansThatFit() {
        Scene two = Scene.of(x -> x.part(10, 0, 1), x -> x.part(10, 1, 1));
        fits("plans 0 and 1", two, 2, false);
        fits("plans 7 and 0", Scene.of(x -> x.part(10, 7, 1), x -> x.part(10, 0, 1)), 2, false);
        fits("the last has another plan", Scene.drawn(6, 1, 1, 1).and(x -> x.part(1, 7, 1)), 4, false);
        fits("both of plan 7", Scene.drawn(7, 10, 10), 2, true);
        two.and(x -> x.part(10, 0, 1)).due("cast: past the one of another plan", 2, x -> x.cast(0, 0, 5));
    }

    private static void castsAre(String name, Scene scene, int from, int to, int fewest, int plain) {
        scene.due("casts: fewest, " + name, fewest, x -> x.casts(from, to, 0));
        scene.due("casts: plain, " + name, plain, x -> x.casts(from, to, 1));
    }

    /** "PARTS from to to (both with)"; "BAD" */
    private static void castsFromAndTo() {
        Scene all = Scene.everywhere();
        for (int what = 0; what < 2; what++) {
            int asked = what;
            all.refusesEach("casts: from", StoneBeds.BAD, NO_PARTS, n -> x -> x.casts(n, 20, asked));
            all.refusesEach("casts: to", StoneBeds.BAD, NO_PARTS, n -> x -> x.casts(0, n, asked));
            all.refusesEach("casts: both", StoneBeds.BAD, NO_PARTS, n -> x -> x.casts(n, n, asked));
            all.refuses("casts: falling by one", StoneBeds.BAD, x -> x.casts(20, 19, asked));
            all.refuses("casts: falling to the first", StoneBeds.BAD, x -> x.casts(20, 0, asked));
        }
        castsAre("the first alone", Scene.drawn(0, 10, 10), 0, 0, 1, 1);
        castsAre("the last alone", Scene.drawn(0, 10, 10), 1, 1, 1, 1);
        castsAre("the first and the last are with them", Scene.drawn(0, 200, 200, 200), 0, 2, 3, 3);
        castsAre("one ahead of them is not", Scene.drawn(0, 200, 200, 200), 1, 2, 2, 2);
        castsAre("one behind them is not", Scene.drawn(0, 200, 200, 200), 0, 1, 2, 2);
        castsAre("28 to 39", Scene.draw(40, 200, 1), 28, 39, 12, 12);
    }

    /** "THE FEWEST CASTS (what = 0), THE PLAIN number (1)"; "BAD" */
    private static void castsWhat() {
        Scene.everywhere().refusesEach("casts: what", StoneBeds.BAD, Check.outside(0, 1), n -> x -> x.casts(0, 20, n));
    }

    /** "PARTS from to to (both with) that are DRAWN" */
    private static void castsOfDrawnOnes() {
        castsAre("five are drawn, wherever the others are", Scene.everywhere(), 0, 20, 3, 3);
        castsAre("none is drawn", Scene.everywhere(), 0, 13, 0, 0);
        Scene three = Scene.drawn(0, 148, 148, 148);
        castsAre("one is cast", three.and(x -> x.cast(0, 0, 1)), 0, 2, 1, 1);
        castsAre("all are cast", three.and(x -> x.cast(0, 0, 1), x -> x.cast(1, 1, 3)), 0, 2, 0, 0);
        for (int part = 4; part < 9; part++) {
            castsAre("alone and not drawn", Scene.everywhere(), part, part, 0, 0);
        }
    }

    /** "(12 at most)"; "BAD: also more than 12 of them" */
    private static void twelveAtMost() {
        Scene thirteen = Scene.draw(13, 200, 1);
        castsAre("twelve", thirteen, 0, 11, 12, 12);
        castsAre("the last twelve", thirteen, 1, 12, 12, 12);
        for (int what = 0; what < 2; what++) {
            int asked = what;
            thirteen.refuses("casts: thirteen", StoneBeds.BAD, x -> x.casts(0, 12, asked));
            Scene.draw(40, 1, 1).refuses("casts: forty", StoneBeds.BAD, x -> x.casts(0, 39, asked));
            eightPlans(13).refuses("casts: thirteen of eight plans", StoneBeds.BAD, x -> x.casts(0, 12, asked));
        }
        castsAre("twelve of thirteen are drawn", thirteen.and(x -> x.cast(0, 4, 1)), 0, 12, 12, 12);
        Scene most = Scene.draw(40, 1, 1).and(x -> x.cast(0, 0, 0x0fffffff));
        castsAre("twelve of forty are drawn", most, 0, 39, 1, 1);
        Scene one = Scene.draw(40, 1, 1).and(x -> x.cast(0, 0, 0x07ffffff));
        one.refuses("casts: thirteen of forty are drawn", StoneBeds.BAD, x -> x.casts(0, 39, 0));
        castsAre("twelve of eight plans", eightPlans(12), 0, 11, 8, 8);
    }

    private static Scene eightPlans(int n) {
        Scene scene = Scene.of();
        for (int i = 0; i < n; i++) {
            int plan = i % 8;
            scene = scene.and(x -> x.part(10, plan, 1));
        }
        return scene;
    }

    private static void castsOfPlansApart() {
        castsAre("eight plans", eightPlans(8), 0, 7, 8, 8);
        castsAre("two of the first plan", eightPlans(9), 0, 8, 8, 8);
        Scene two = Scene.drawn(5, 146, 96, 96, 96, 71, 71);
        for (int length : new int[] {146, 96, 96, 96, 71, 71}) {
            two = two.and(x -> x.part(length, 6, 1));
        }
        castsAre("of two plans", two, 0, 11, 4, 6);
    }

    /** "each on the first cast of its PLAN on which it FITS with those there, a new one if none" */
    private static void plainNumber() {
        castsAre("the second is just full", Scene.drawn(4, 146, 73, 73, 96, 98, 98), 0, 5, 2, 3);
        castsAre("the first has room again", Scene.drawn(3, 160, 150, 142, 130), 0, 3, 2, 2);
        castsAre("on the first, the fullest asks for less", Scene.drawn(0, 200, 118, 97, 72, 57, 24), 0, 5, 2, 3);
        castsAre("on the first, the fullest asks for more", Scene.drawn(1, 200, 122, 111, 49, 41, 37, 11), 0, 6, 2, 2);
        castsAre("on the first, the emptiest asks for less", Scene.drawn(7, 197, 172, 77, 71, 42, 23), 0, 5, 2, 3);
        castsAre("on the first, the last asks for less", Scene.drawn(6, 197, 131, 80, 77, 53, 41), 0, 5, 2, 3);
        castsAre("on the first, the last asks for more", Scene.drawn(5, 187, 138, 101, 87, 63), 0, 4, 2, 2);
    }

    /** "its PARTS by LENGTHS, the longest first" */
    private static void plainTakesTheLongestFirst() {
        castsAre("falling", Scene.drawn(2, 146, 96, 96, 96, 71, 71), 0, 5, 2, 3);
        castsAre("by numbers would ask for less", Scene.drawn(2, 146, 71, 71, 96, 96, 96), 0, 5, 2, 3);
        castsAre("by numbers would ask for more", Scene.drawn(0, 96, 100, 196, 200), 0, 3, 2, 2);
        int[] lengths = {146, 96, 96, 96, 71, 71};
        for (int from = 0; from < lengths.length; from++) {
            int[] turned = new int[lengths.length];
            for (int i = 0; i < lengths.length; i++) {
                turned[i] = lengths[(from + i) % lengths.length];
            }
            castsAre("turned by " + from, Scene.drawn(7, turned), 0, 5, 2, 3);
        }
        castsAre("the shortest and the longest last", Scene.drawn(0, 96, 96, 71, 96, 71, 146), 0, 5, 2, 3);
    }

    private static void castsChangeNothing() {
        Scene all = Scene.everywhere();
        all.leaves("casts: fewest", x -> x.casts(0, 20, 0));
        all.leaves("casts: plain", x -> x.casts(0, 20, 1));
        Scene hard = Scene.drawn(2, 146, 96, 96, 96, 71, 71);
        hard.leaves("casts: fewest, fewer than plain", x -> x.casts(0, 5, 0));
        hard.leaves("casts: plain, more than the fewest", x -> x.casts(0, 5, 1));
    }

    /** The fewest are looked for here by trying all sets, one after the other. */
    private static void fewestAgainstAllSets() {
        long seed = 12345;
        for (int round = 0; round < 400; round++) {
            int n = 1 + round % 9;
            int[] lengths = new int[n];
            for (int i = 0; i < n; i++) {
                seed = seed * 6364136223846793005L + 1442695040888963407L;
                int spread = (int) (seed >>> 40 & 0xffff);
                lengths[i] = round % 2 == 0 ? 60 + spread % 60 : 1 + spread % 200;
            }
            int due = fewest(lengths, (1 << n) - 1, new int[1 << n]);
            Scene.drawn(round % 8, lengths).due("casts: all sets, round " + round, due, x -> x.casts(0, n - 1, 0));
        }
    }

    private static int fewest(int[] lengths, int left, int[] known) {
        if (left == 0) {
            return 0;
        }
        if (known[left] == 0) {
            int least = Integer.MAX_VALUE;
            int lowest = left & -left;
            for (int set = left; set != 0; set = set - 1 & left) {
                if ((set & lowest) != 0 && fit(lengths, set)) {
                    least = Math.min(least, 1 + fewest(lengths, left & ~set, known));
                }
            }
            known[left] = least;
        }
        return known[left];
    }

    private static boolean fit(int[] lengths, int set) {
        int sum = 0;
        for (int i = 0; i < lengths.length; i++) {
            sum += (set >> i & 1) * lengths[i];
        }
        return sum + 4 * (Integer.bitCount(set) - 1) <= 300;
    }

    /** "BEDS 0 to 2"; "BAD" */
    private static void castOnABed() {
        for (int bed = 0; bed < 3; bed++) {
            int on = bed;
            Scene cast = Scene.drawn(0, 10, 10).takes("cast: on bed " + bed, 1, x -> x.cast(on, 1, 1));
            cast.due("cast: told of bed " + bed, 1, x -> x.bed(on, 0));
            cast.due("cast: the part is cast on bed " + bed, 1, x -> x.told(1, 4));
            cast.due("cast: the part tells bed " + bed, on, x -> x.told(1, 5));
            cast.due("cast: the other is not cast", 0, x -> x.told(0, 4));
            cast.due("cast: is counted", 1, x -> x.count(3));
        }
        Scene.everywhere().refusesEach("cast: bed", StoneBeds.BAD, Check.outside(0, 2), n -> x -> x.cast(n, 19, 1));
    }

    /** "of PARTS from on: bit i is PART from and i"; "BAD: also .. a bit of no PART" */
    private static void castFrom() {
        Scene all = Scene.everywhere();
        all.refusesEach("cast: from", StoneBeds.BAD, NO_PARTS, n -> x -> x.cast(0, n, 1));
        all.refuses("cast: from -1, its bit 20 is a part", StoneBeds.BAD, x -> x.cast(0, -1, 1 << 20));
        all.refuses("cast: from -31, its bit 31 is a part", StoneBeds.BAD, x -> x.cast(0, -31, Integer.MIN_VALUE));
        all.refuses("cast: from the greatest number, bit 1", StoneBeds.BAD, x -> x.cast(0, Integer.MAX_VALUE, 2));
        all.due("cast: from the last part", 1, x -> x.cast(0, 20, 1));
        all.due("cast: from one that is not drawn itself", 1, x -> x.cast(0, 0, 1 << 20));
        Scene.draw(40, 5, 5).due("cast: from part 39", 1, x -> x.cast(0, 39, 1));
        Scene.draw(40, 5, 5).refuses("cast: from 39, bit 1", StoneBeds.BAD, x -> x.cast(0, 39, 2));
    }

    /** "PARTS told as bits"; "BAD: also none" */
    private static void castBits() {
        Scene.everywhere().refuses("cast: no bits", StoneBeds.BAD, x -> x.cast(0, 19, 0));
        Scene.everywhere().refuses("cast: no bits, on a bed that is not empty", StoneBeds.BAD, x -> x.cast(1, 19, 0));
        Scene some = Scene.draw(5, 20, 1).takes("cast: bits 0 and 2", 2, x -> x.cast(0, 1, 5));
        int[] due = {0, 1, 0, 1, 0};
        for (int part = 0; part < due.length; part++) {
            int asked = part;
            some.due("cast: bits 0 and 2, part " + part, due[part], x -> x.told(asked, 4));
        }
        Scene most = Scene.draw(40, 5, 1).takes("cast: 32 bits", 32, x -> x.cast(0, 8, -1));
        most.due("cast: 32 bits, lengths and joints", 32 * 5 + 31 * 4, x -> x.bed(0, 1));
        most.due("cast: 32 bits, the one ahead", 0, x -> x.told(7, 4));
        most.due("cast: 32 bits, the first", 1, x -> x.told(8, 4));
        most.due("cast: 32 bits, the last", 1, x -> x.told(39, 4));
        Scene.draw(32, 5, 1).takes("cast: bit 31", 1, x -> x.cast(0, 0, Integer.MIN_VALUE))
            .due("cast: bit 31 is part 31", 1, x -> x.told(31, 4));
        Scene.draw(40, 5, 1).takes("cast: bit 31 from 8", 1, x -> x.cast(0, 8, Integer.MIN_VALUE))
            .due("cast: bit 31 from 8 is part 39", 1, x -> x.told(39, 4));
    }

    /** "a bit of no PART" */
    private static void castBitsOfNoPart() {
        Scene five = Scene.draw(5, 20, 1);
        five.due("cast: bit of the last part", 2, x -> x.cast(0, 0, 17));
        five.refuses("cast: the bit behind it", StoneBeds.BAD, x -> x.cast(0, 0, 33));
        five.refuses("cast: the bit behind it alone", StoneBeds.BAD, x -> x.cast(0, 0, 32));
        five.refuses("cast: the bit behind it, from 4 on", StoneBeds.BAD, x -> x.cast(0, 4, 3));
        five.refuses("cast: all bits", StoneBeds.BAD, x -> x.cast(0, 0, -1));
        five.refuses("cast: the last bit", StoneBeds.BAD, x -> x.cast(0, 0, Integer.MIN_VALUE + 1));
        Scene.draw(31, 5, 1).refuses("cast: bit 31 of 31", StoneBeds.BAD, x -> x.cast(0, 0, Integer.MIN_VALUE));
        Scene.draw(40, 5, 1).refuses("cast: bit 31 from 9 of 40", StoneBeds.BAD, x -> x.cast(0, 9, -1));
    }

    /** "NO: one is not DRAWN" */
    private static void castOfDrawnOnes() {
        int[] notDrawn = {17, 16, 9, 12, 3, 4, 5, 6, 7, 8, 11};
        Scene alike = Scene.everywhere().and(x -> x.change(19, 1, 0, 1), x -> x.change(20, 1, 2, 1));
        for (int part : notDrawn) {
            int with = part > 13 ? 20 : 19;
            alike.refuses("cast: part " + part + " alone", StoneBeds.NO, x -> x.cast(0, part, 1));
            alike.refuses("cast: part " + part + " with one drawn", StoneBeds.NO, x -> x.cast(0, part, 1 | 1 << with - part));
        }
        Scene cast = Scene.draw(4, 10, 1).and(x -> x.cast(0, 1, 1));
        cast.refuses("cast: the first is not drawn", StoneBeds.NO, x -> x.cast(1, 1, 3));
        cast.refuses("cast: the last is not drawn", StoneBeds.NO, x -> x.cast(1, 0, 3));
        cast.due("cast: all are drawn", 3, x -> x.cast(1, 0, 13));
    }

    /** "a set that FITS on an empty BED"; "NO: .. the BED is not empty" */
    private static void castOnAnEmptyBed() {
        Scene one = Scene.draw(6, 10, 1).and(x -> x.cast(0, 0, 1));
        one.refuses("cast: one is on the bed, which it would fit", StoneBeds.NO, x -> x.cast(0, 1, 1));
        one.refuses("cast: one is on the bed, the same again", StoneBeds.NO, x -> x.cast(0, 0, 1));
        one.due("cast: another bed is empty", 1, x -> x.cast(1, 1, 1));
        Scene ripe = one.and(x -> x.hours(20));
        ripe.refuses("cast: may be let go, and is not", StoneBeds.NO, x -> x.cast(0, 1, 1));
        ripe.and(x -> x.letGo(0)).due("cast: is let go", 5, x -> x.cast(0, 1, 31));
        Scene struck = Scene.draw(2, 10, 1).and(x -> x.cast(0, 0, 1), x -> x.change(0, 11, 0, 1), x -> x.hours(20));
        struck.refuses("cast: one to be struck is on the bed", StoneBeds.NO, x -> x.cast(0, 1, 1));
        struck.and(x -> x.letGo(0)).due("cast: it was struck", 1, x -> x.cast(0, 1, 1));
    }

    /** "Of several the first" */
    private static void castBadIsAheadOfNo() {
        Scene all = Scene.everywhere();
        all.refuses("cast: a bit of no part, one not drawn", StoneBeds.BAD, x -> x.cast(0, 17, 1 | 1 << 4));
        all.refuses("cast: a bit of no part, the bed not empty", StoneBeds.BAD, x -> x.cast(1, 20, 3));
        all.refuses("cast: no bed, one not drawn", StoneBeds.BAD, x -> x.cast(3, 0, 1));
        all.refuses("cast: a bit of no part, of two plans", StoneBeds.BAD, x -> x.cast(0, 14, 3 | 1 << 7));
    }

    private static void castAgain() {
        Scene again = Scene.draw(4, 20, 1)
            .and(x -> x.cast(0, 0, 3), x -> x.hours(20), x -> x.letGo(0), x -> x.hours(5), x -> x.cast(0, 2, 3));
        int[] due = {2, 44, 0, 0};
        for (int what = 0; what < due.length; what++) {
            int asked = what;
            again.due("cast: again, bed(0, " + what + ")", due[what], x -> x.bed(0, asked));
        }
        again.due("cast: again, casts", 2, x -> x.count(3));
        again.and(x -> x.hours(19)).refuses("cast: again, not ripe", StoneBeds.NO, x -> x.letGo(0));
    }
}
