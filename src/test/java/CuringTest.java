/** Promises 6, 7, 8 and 18: WARMTH, HOURS, LET GO, and what is told of a BED. */
public final class CuringTest {
    public static void main(String[] args) {
        warmth();
        warmthAnswers();
        hoursOfACall();
        hoursInAll();
        hoursBadIsAheadOfFull();
        ripenessGrows();
        ripenessGrowsByEachHour();
        ripenessOfEmptyBeds();
        letGoOfABed();
        letGoOfAnEmptyBed();
        letGoAtRipeness();
        letGoAfterHours();
        letGoIsLoose();
        letGoOfOnesToBeStruck();
        camber();
        camberIsCut();
        bedsTold();
        bedWhat();
        bedEmpty();
        Check.end("CuringTest");
    }

    /** "WARMTH -20 to 60"; "BAD answers -100." */
    private static void warmth() {
        Scene.everywhere().refusesEach("warmth:", -100, Check.outside(-20, 60), n -> x -> x.warmth(n));
        Scene.of().refusesEach("warmth: new,", -100, Check.outside(-20, 60), n -> x -> x.warmth(n));
        Scene.of().and(x -> x.warmth(-21)).due("warmth: behind -21", 15, x -> x.warmth(0));
        Scene.of().and(x -> x.warmth(61)).due("warmth: behind 61", 15, x -> x.warmth(0));
    }

    /** "WARMTH from now on: what it was."; "15 at first" */
    private static void warmthAnswers() {
        Scene cold = Scene.of().takes("warmth: 15 at first", 15, x -> x.warmth(-20));
        Scene warm = cold.takes("warmth: the coldest", -20, x -> x.warmth(60));
        Scene less = warm.takes("warmth: the warmest", 60, x -> x.warmth(-1));
        less.takes("warmth: -1, which is no refusal", -1, x -> x.warmth(0)).due("warmth: 0", 0, x -> x.warmth(0));
        for (int what = 0; what <= 10; what++) {
            int asked = what;
            Scene.of(x -> x.warmth(-20)).due("warmth: no hour goes by, count " + what, 0, x -> x.count(asked));
        }
    }

    /** "n HOURS (1 to 200): the HOUR then. BAD" */
    private static void hoursOfACall() {
        Scene.of().takes("hours: 1", 1, x -> x.hours(1)).due("hours: 1 is counted", 1, x -> x.count(1));
        Scene.of().takes("hours: 200", 200, x -> x.hours(200)).due("hours: 200 are counted", 200, x -> x.count(1));
        Scene.everywhere().due("hours: 200 behind 23", 223, x -> x.hours(200));
        Scene.everywhere().refusesEach("hours:", StoneBeds.BAD, Check.outside(1, 200), n -> x -> x.hours(n));
    }

    /** "FULL: beyond 100000." */
    private static void hoursInAll() {
        Scene late = Scene.draw(1, 10, 1).and(x -> x.cast(0, 0, 1)).times(499, x -> x.hours(200));
        late.due("hours: 200 to the last", 100000, x -> x.hours(200));
        Scene last = late.and(x -> x.hours(199));
        last.refuses("hours: 2 behind 99999", StoneBeds.FULL, x -> x.hours(2));
        last.refuses("hours: 200 behind 99999", StoneBeds.FULL, x -> x.hours(200));
        Scene done = last.takes("hours: 1 behind 99999", 100000, x -> x.hours(1));
        done.refuses("hours: 1 behind 100000", StoneBeds.FULL, x -> x.hours(1));
        done.refuses("hours: 200 behind 100000", StoneBeds.FULL, x -> x.hours(200));
        done.due("hours: ripeness of all", 2500000, x -> x.bed(0, 2));
        done.due("hours: since it was cast", 100000, x -> x.bed(0, 3));
        done.due("hours: it is let go at the last", 1, x -> x.letGo(0));
        Scene warmest = Scene.draw(1, 200, 1).and(x -> x.cast(2, 0, 1), x -> x.warmth(60)).times(500, x -> x.hours(200));
        warmest.due("hours: the greatest ripeness", 7000000, x -> x.bed(2, 2));
        Scene odd = Scene.atHour(99801);
        odd.refuses("hours: 200 behind 99801", StoneBeds.FULL, x -> x.hours(200));
        odd.due("hours: 199 behind 99801", 100000, x -> x.hours(199));
    }

    /** "Of several the first" */
    private static void hoursBadIsAheadOfFull() {
        Scene done = Scene.atHour(100000);
        done.refuses("hours: 201, at the last", StoneBeds.BAD, x -> x.hours(201));
        done.refuses("hours: 0, at the last", StoneBeds.BAD, x -> x.hours(0));
        done.refuses("hours: -1, at the last", StoneBeds.BAD, x -> x.hours(-1));
        done.refuses("hours: the most, at the last", StoneBeds.BAD, x -> x.hours(Integer.MAX_VALUE));
    }

    /** "grows by WARMTH of that HOUR and 10, if that is above 0" */
    private static void ripenessGrows() {
        int[][] warmAndGrown = {{-20, 0}, {-11, 0}, {-10, 0}, {-9, 1}, {-8, 2}, {0, 10}, {15, 25}, {60, 70}};
        for (int[] w : warmAndGrown) {
            Scene two = Scene.draw(2, 10, 1)
                .and(x -> x.warmth(w[0]), x -> x.hours(5), x -> x.cast(1, 0, 1), x -> x.hours(3), x -> x.cast(2, 1, 1));
            two.due("ripeness at " + w[0] + " in 3 hours", 3 * w[1], x -> x.bed(1, 2));
            two.due("ripeness at " + w[0] + " in none", 0, x -> x.bed(2, 2));
            Scene then = two.and(x -> x.hours(4));
            then.due("ripeness at " + w[0] + " in 7 hours", 7 * w[1], x -> x.bed(1, 2));
            then.due("ripeness at " + w[0] + ", cast later", 4 * w[1], x -> x.bed(2, 2));
            then.due("ripeness at " + w[0] + ", empty", 0, x -> x.bed(0, 2));
            then.due("hours go by at " + w[0], 7, x -> x.bed(1, 3));
        }
    }

    /** "WARMTH of that HOUR" */
    private static void ripenessGrowsByEachHour() {
        Scene cast = Scene.draw(1, 10, 1).and(x -> x.cast(0, 0, 1), x -> x.hours(2));
        Scene cold = cast.and(x -> x.warmth(-20), x -> x.hours(100));
        cold.due("ripeness does not fall", 2 * 25, x -> x.bed(0, 2));
        cold.and(x -> x.warmth(5), x -> x.hours(3)).due("ripeness by each warmth", 2 * 25 + 3 * 15, x -> x.bed(0, 2));
        cast.and(x -> x.warmth(60)).due("ripeness of the hours that are gone", 2 * 25, x -> x.bed(0, 2));
        cast.and(x -> x.warmth(61), x -> x.hours(1)).due("ripeness by no warmth that is refused", 3 * 25, x -> x.bed(0, 2));
        cast.and(x -> x.hours(201)).due("ripeness by no hours that are refused", 2 * 25, x -> x.bed(0, 2));
    }

    /** "RIPENESS of each BED that is not empty grows" */
    private static void ripenessOfEmptyBeds() {
        Scene cast = Scene.of().times(5, x -> x.hours(200)).and(x -> x.part(10, 0, 1), x -> x.cast(0, 0, 1));
        cast.due("ripeness: none of the hours ahead of the cast", 0, x -> x.bed(0, 2));
        cast.and(x -> x.hours(12)).refuses("letGo: not by the hours ahead of the cast", StoneBeds.NO, x -> x.letGo(0));
        Scene again = cast.and(x -> x.hours(20), x -> x.letGo(0), x -> x.hours(50));
        again.due("ripeness: empty again", 0, x -> x.bed(0, 2));
        Scene other = again.and(x -> x.part(10, 0, 1), x -> x.cast(0, 1, 1), x -> x.hours(19));
        other.due("ripeness: cast again", 475, x -> x.bed(0, 2));
        other.refuses("letGo: cast again, not ripe", StoneBeds.NO, x -> x.letGo(0));
    }

    /** "BEDS 0 to 2"; "BAD" */
    private static void letGoOfABed() {
        for (int bed = 0; bed < 3; bed++) {
            int of = bed;
            Scene.draw(1, 10, 1).and(x -> x.cast(of, 0, 1), x -> x.hours(20)).due("letGo: bed " + bed, 1, x -> x.letGo(of));
        }
        Scene.everywhere().refusesEach("letGo: bed", StoneBeds.BAD, Check.outside(0, 2), n -> x -> x.letGo(n));
        Scene ripe = Scene.draw(3, 10, 1)
            .and(x -> x.cast(0, 0, 1), x -> x.cast(1, 1, 1), x -> x.cast(2, 2, 1), x -> x.hours(20));
        ripe.refusesEach("letGo: all are ripe, bed", StoneBeds.BAD, Check.outside(0, 2), n -> x -> x.letGo(n));
    }

    /** "NO: it is empty" */
    private static void letGoOfAnEmptyBed() {
        for (int bed = 0; bed < 3; bed++) {
            int of = bed;
            Scene.of(x -> x.hours(200)).refuses("letGo: never cast, bed " + bed, StoneBeds.NO, x -> x.letGo(of));
            Scene gone = Scene.draw(1, 10, 1).and(x -> x.cast(of, 0, 1), x -> x.hours(20), x -> x.letGo(of));
            gone.refuses("letGo: twice, bed " + bed, StoneBeds.NO, x -> x.letGo(of));
            gone.and(x -> x.hours(200)).refuses("letGo: twice, later, bed " + bed, StoneBeds.NO, x -> x.letGo(of));
        }
        Scene.everywhere().refuses("letGo: bed 0, empty again", StoneBeds.NO, x -> x.letGo(0));
        Scene.everywhere().refuses("letGo: bed 2, empty", StoneBeds.NO, x -> x.letGo(2));
    }

    /** "LET GO at RIPENESS 500 at least"; "NO: .. not yet" */
    private static void letGoAtRipeness() {
        Scene cast = Scene.draw(2, 140, 1).and(x -> x.cast(1, 0, 3));
        Scene slow = cast.and(x -> x.warmth(-9), x -> x.hours(200), x -> x.hours(200), x -> x.hours(99));
        slow.due("letGo: 499", 499, x -> x.bed(1, 2));
        slow.refuses("letGo: at 499", StoneBeds.NO, x -> x.letGo(1));
        slow.and(x -> x.hours(1)).due("letGo: at 500", 2, x -> x.letGo(1));
        slow.and(x -> x.hours(2)).due("letGo: at 501", 2, x -> x.letGo(1));
        Scene usual = cast.and(x -> x.hours(19));
        usual.refuses("letGo: at 475", StoneBeds.NO, x -> x.letGo(1));
        usual.and(x -> x.hours(1)).due("letGo: at 500 in 20 hours", 2, x -> x.letGo(1));
        Scene.everywhere().refuses("letGo: neither ripe nor its hours", StoneBeds.NO, x -> x.letGo(1));
        cast.and(x -> x.warmth(-10)).times(50, x -> x.hours(200)).refuses("letGo: at 0", StoneBeds.NO, x -> x.letGo(1));
    }

    /** "and 12 HOURS since it was CAST" */
    private static void letGoAfterHours() {
        Scene cast = Scene.draw(2, 200, 1).and(x -> x.hours(30), x -> x.warmth(60), x -> x.cast(2, 0, 1));
        Scene eleven = cast.and(x -> x.hours(11));
        eleven.due("letGo: ripe in 11 hours", 770, x -> x.bed(2, 2));
        eleven.refuses("letGo: 11 hours", StoneBeds.NO, x -> x.letGo(2));
        Scene twelve = eleven.and(x -> x.hours(1));
        twelve.due("letGo: 12 hours", 1, x -> x.letGo(2));
        eleven.and(x -> x.hours(2)).due("letGo: 13 hours", 1, x -> x.letGo(2));
        Scene again = twelve.and(x -> x.letGo(2), x -> x.cast(2, 1, 1), x -> x.hours(11));
        again.refuses("letGo: 11 hours since it was cast again", StoneBeds.NO, x -> x.letGo(2));
        again.and(x -> x.hours(1)).due("letGo: 12 hours since it was cast again", 1, x -> x.letGo(2));
        cast.refuses("letGo: no hour", StoneBeds.NO, x -> x.letGo(2));
    }

    /** "its PARTS are LOOSE, it is empty" */
    private static void letGoIsLoose() {
        Scene gone = Scene.draw(4, 10, 1)
            .and(x -> x.cast(0, 0, 3), x -> x.cast(1, 2, 3), x -> x.hours(20))
            .takes("letGo: two of four", 2, x -> x.letGo(0));
        int[] due = {2, 2, 1, 1};
        for (int part = 0; part < due.length; part++) {
            int asked = part;
            gone.due("letGo: where, part " + part, due[part], x -> x.told(asked, 4));
            gone.due("letGo: number, part " + part, part < 2 ? StoneBeds.NONE : 1, x -> x.told(asked, 5));
        }
        gone.due("letGo: the bed is empty", 0, x -> x.bed(0, 0));
        gone.due("letGo: the other bed is not", 2, x -> x.bed(1, 0));
    }

    /** "how many PARTS are LOOSE by it (not STRUCK)"; "on a BED, when that is LET GO" */
    private static void letGoOfOnesToBeStruck() {
        Scene cast = Scene.draw(2, 10, 1).and(x -> x.cast(0, 0, 3));
        Scene one = cast.and(x -> x.change(1, 11, 0, 1), x -> x.hours(20));
        one.due("letGo: to be struck, before it", 1, x -> x.told(1, 4));
        Scene gone = one.takes("letGo: one of two is loose", 1, x -> x.letGo(0));
        gone.due("letGo: struck", 5, x -> x.told(1, 4));
        gone.due("letGo: struck ones are nowhere", StoneBeds.NONE, x -> x.told(1, 5));
        gone.due("letGo: struck, not to be", 0, x -> x.told(1, 7));
        gone.due("letGo: the other is loose", 2, x -> x.told(0, 4));
        Scene both = one.and(x -> x.change(0, 11, 0, 1)).takes("letGo: none of two is loose", 0, x -> x.letGo(0));
        both.due("letGo: both are struck", 2, x -> x.count(9));
        both.due("letGo: the bed is empty by it", 0, x -> x.bed(0, 0));
        both.refuses("letGo: again, none was loose", StoneBeds.NO, x -> x.letGo(0));
    }

    private static Scene letGone(int plan, int warmth, int hours, int... lengths) {
        int bits = (1 << lengths.length) - 1;
        return Scene.drawn(plan, lengths)
            .and(x -> x.warmth(warmth), x -> x.cast(0, 0, bits), x -> x.hours(hours), x -> x.letGo(0));
    }

    private static void camberIs(String name, int due, Scene scene, int part) {
        scene.due("camber: " + name, due, x -> x.told(part, 6));
    }

    /** "CAMBER of each is its LENGTH times LENGTH times (PLAN and 1) by (RIPENESS and 1000)" */
    private static void camber() {
        camberIs("the greatest", 200 * 200 * 8 / 1500, letGone(7, 15, 20, 200, 90), 0);
        camberIs("of each by its length", 90 * 90 * 8 / 1500, letGone(7, 15, 20, 200, 90), 1);
        camberIs("by ripeness", 100 * 100 * 3 / (1000 + 57 * 13), letGone(2, 3, 57, 100), 0);
        camberIs("of plan 0", 100 * 100 / 1500, letGone(0, 15, 20, 100), 0);
        Scene cast = Scene.drawn(7, 200).and(x -> x.cast(0, 0, 1), x -> x.hours(20));
        camberIs("0 before it is let go", 0, cast, 0);
        Scene gone = cast.and(x -> x.letGo(0));
        camberIs("as it was let go, later", 213, gone.and(x -> x.hours(200)), 0);
        camberIs("as it was let go, cut", 213, gone.and(x -> x.change(0, 100, 7, 1)), 0);
        camberIs("as it was let go, in the yard", 213, gone.and(x -> x.stack(0, 0)), 0);
        camberIs("as it was let go, away", 213, gone.and(x -> x.stack(0, 0), x -> x.load(0), x -> x.go()), 0);
        camberIs("as it was let go, struck", 213, gone.and(x -> x.change(0, 200, 6, 1)), 0);
        camberIs("of one struck when it is let go", 213, cast.and(x -> x.change(0, 200, 6, 1), x -> x.letGo(0)), 0);
        camberIs("0 of the one in its stead", 0, gone.and(x -> x.change(0, 200, 6, 1)), 1);
    }

    /** "cut" */
    private static void camberIsCut() {
        camberIs("45000 by 1500, without a rest", 30, letGone(1, 15, 20, 150), 0);
        camberIs("44402 by 1500", 29, letGone(1, 15, 20, 149), 0);
        camberIs("1521 by 1500", 1, letGone(0, 15, 20, 39), 0);
        camberIs("1444 by 1500", 0, letGone(0, 15, 20, 38), 0);
        camberIs("1 by 1500", 0, letGone(0, 15, 20, 1), 0);
        camberIs("19494 by 1500", 12, letGone(5, 15, 20, 57), 0);
    }

    /** "Of a BED: .. BAD." */
    private static void bedsTold() {
        for (int what = 0; what < 4; what++) {
            int asked = what;
            Scene.everywhere().refusesEach("bed: " + what + " of bed", StoneBeds.BAD, Check.outside(0, 2), n -> x -> x.bed(n, asked));
        }
        for (int bed = 0; bed < 3; bed++) {
            int of = bed;
            Scene cast = Scene.drawn(0, 10, 20, 30).and(x -> x.hours(7), x -> x.cast(of, 0, 7), x -> x.hours(200));
            int[] due = {3, 68, 5000, 200};
            for (int what = 0; what < due.length; what++) {
                int asked = what;
                cast.due("bed(" + bed + ", " + what + ")", due[what], x -> x.bed(of, asked));
            }
        }
        Scene one = Scene.drawn(0, 40).and(x -> x.cast(0, 0, 1));
        one.due("bed: one part", 1, x -> x.bed(0, 0));
        one.due("bed: one part has no joint", 40, x -> x.bed(0, 1));
        one.due("bed: no hour since it was cast", 0, x -> x.bed(0, 3));
        Scene.everywhere().due("bed: one to be struck is on it still", 2, x -> x.bed(1, 0));
        Scene.everywhere().due("bed: with its length", 274, x -> x.bed(1, 1));
    }

    /** "0 PARTS, 1 LENGTHS and JOINTS together, 2 RIPENESS, 3 HOURS since it was CAST (0). BAD." */
    private static void bedWhat() {
        for (int bed = 0; bed < 3; bed++) {
            int of = bed;
            Scene.everywhere().refusesEach("bed: what of " + bed, StoneBeds.BAD, Check.outside(0, 3), n -> x -> x.bed(of, n));
        }
        Scene.everywhere().refuses("bed: neither a bed nor a what", StoneBeds.BAD, x -> x.bed(3, 4));
    }

    /** "HOURS since it was CAST (0)": of an empty BED none. */
    private static void bedEmpty() {
        Scene gone = Scene.draw(2, 10, 1).and(x -> x.cast(1, 0, 3), x -> x.hours(20), x -> x.letGo(1));
        for (int what = 0; what < 4; what++) {
            int asked = what;
            gone.due("bed: let go, " + what, 0, x -> x.bed(1, asked));
            gone.and(x -> x.hours(9)).due("bed: let go, later, " + what, 0, x -> x.bed(1, asked));
            Scene.of(x -> x.hours(9)).due("bed: never cast, " + what, 0, x -> x.bed(1, asked));
        }
    }
}
