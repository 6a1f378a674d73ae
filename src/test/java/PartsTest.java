import java.util.function.IntFunction;

/** Promises 1, 2, 3, 16 and 19: PARTS, and what is told of them. */
public final class PartsTest {
    private static final int[] NO_PARTS = Check.outside(0, 20);

    public static void main(String[] args) {
        newObject();
        newObjectRefuses();
        oneObjectIsNotAnother();
        partsAsTheyCome();
        fortyAtMost();
        badIsAheadOfFull();
        lengths();
        plans();
        weights();
        needsOfParts();
        needIsOfAnyPart();
        needs();
        toldIsOfAPart();
        toldOfANewPart();
        toldWhat();
        toldWhereItIs();
        toldTheNumberFromNought();
        counts();
        countWhat();
        eachPartIsSomewhere();
        askingChangesNothing();
        theLastCall();
        Check.end("PartsTest");
    }

    /** "No PARTS; all BEDS, STACKS, the LORRY empty; HOUR 0." */
    private static void newObject() {
        Scene none = Scene.of();
        for (int what = 0; what <= 10; what++) {
            int asked = what;
            none.due("new: count(" + what + ")", 0, x -> x.count(asked));
        }
        for (int bed = 0; bed < 3; bed++) {
            for (int what = 0; what < 4; what++) {
                int of = bed;
                int asked = what;
                none.due("new: bed(" + bed + ", " + what + ")", 0, x -> x.bed(of, asked));
            }
        }
        for (int stack = 0; stack < 5; stack++) {
            int of = stack;
            none.due("new: at(" + stack + ", 0)", StoneBeds.NONE, x -> x.at(of, 0));
        }
        for (int what = 0; what < 5; what++) {
            int asked = what;
            none.due("new: lorry(" + what + ")", what == 4 ? 1 : 0, x -> x.lorry(asked));
        }
        none.due("new: no part is told of", StoneBeds.BAD, x -> x.told(0, 0));
        none.due("new: warmth", 15, x -> x.warmth(0));
    }

    /** What needs a PART, and one that is empty, is refused while there is none. */
    private static void newObjectRefuses() {
        Scene none = Scene.of();
        none.refuses("new: need", StoneBeds.BAD, x -> x.need(0, 1));
        none.refuses("new: casts, fewest", StoneBeds.BAD, x -> x.casts(0, 0, 0));
        none.refuses("new: casts, plain", StoneBeds.BAD, x -> x.casts(0, 0, 1));
        none.refuses("new: cast", StoneBeds.BAD, x -> x.cast(0, 0, 1));
        none.refuses("new: stack", StoneBeds.BAD, x -> x.stack(0, 0));
        none.refuses("new: diggings of one", StoneBeds.BAD, x -> x.diggings(1, 0));
        none.refuses("new: change", StoneBeds.BAD, x -> x.change(0, 1, 1, 1));
        none.refuses("new: letGo", StoneBeds.NO, x -> x.letGo(0));
        none.refuses("new: move", StoneBeds.NO, x -> x.move(0, 1));
        none.refuses("new: load", StoneBeds.NO, x -> x.load(0));
        none.refuses("new: go", StoneBeds.NO, x -> x.go());
        none.due("new: diggings of none", 0, x -> x.diggings(0, 0));
    }

    private static void oneObjectIsNotAnother() {
        Scene.everywhere().leaves("what is done with another object", x -> Scene.loose(5, 9, 9).made().count(0));
        Scene.of().leaves("what is done with another object, new", x -> Scene.everywhere().made().count(0));
    }

    /** "PARTS 0, 1, .. as they come"; "A PART: its number." */
    private static void partsAsTheyCome() {
        Scene one = Scene.of().takes("part: the first", 0, x -> x.part(10, 1, 20));
        Scene two = one.takes("part: the second", 1, x -> x.part(10, 1, 20));
        two.due("part: how many", 2, x -> x.count(0));
        two.and(x -> x.part(0, 0, 0)).due("part: a bad one has no number", 2, x -> x.part(1, 0, 1));
        Scene.everywhere().due("part: behind 21", 21, x -> x.part(10, 1, 20));
    }

    /** "40 at most" */
    private static void fortyAtMost() {
        Scene most = Scene.draw(39, 5, 5).takes("part: the 40th", 39, x -> x.part(200, 7, 100));
        most.due("part: the 40th is there", 200, x -> x.told(39, 0));
        most.refuses("part: a 41st", StoneBeds.FULL, x -> x.part(1, 0, 1));
        most.refuses("part: a 41st, at its most", StoneBeds.FULL, x -> x.part(200, 7, 100));
        most.due("part: 40 are counted", 40, x -> x.count(0));
        most.due("part: a 41st is not there", StoneBeds.BAD, x -> x.told(40, 0));
        Scene struck = Scene.loose(1, 10, 10).and(x -> x.change(0, 11, 0, 10)).times(38, x -> x.part(1, 0, 1));
        struck.refuses("part: a 41st, one is struck", StoneBeds.FULL, x -> x.part(1, 0, 1));
    }

    /** "BAD; FULL." "Of several the first" */
    private static void badIsAheadOfFull() {
        Scene most = Scene.draw(40, 5, 5);
        most.refuses("part: 40, and no length", StoneBeds.BAD, x -> x.part(0, 0, 1));
        most.refuses("part: 40, and no plan", StoneBeds.BAD, x -> x.part(1, 8, 1));
        most.refuses("part: 40, and no weight", StoneBeds.BAD, x -> x.part(1, 0, 101));
    }

    /** "a LENGTH (1 to 200)" */
    private static void lengths() {
        isTaken("length 1", 0, 1, 1, 0, 1);
        isTaken("length 200", 0, 200, 200, 0, 1);
        Scene.everywhere().refusesEach("part: length", StoneBeds.BAD, Check.outside(1, 200), n -> x -> x.part(n, 0, 1));
    }

    /** "a PLAN (0 to 7)" */
    private static void plans() {
        isTaken("plan 0", 1, 0, 1, 0, 1);
        isTaken("plan 7", 1, 7, 1, 7, 1);
        Scene.everywhere().refusesEach("part: plan", StoneBeds.BAD, Check.outside(0, 7), n -> x -> x.part(1, n, 1));
    }

    /** "a WEIGHT (1 to 100)" */
    private static void weights() {
        isTaken("weight 1", 2, 1, 1, 0, 1);
        isTaken("weight 100", 2, 100, 1, 0, 100);
        Scene.everywhere().refusesEach("part: weight", StoneBeds.BAD, Check.outside(1, 100), n -> x -> x.part(1, 0, n));
    }

    private static void isTaken(String name, int what, int due, int length, int plan, int weight) {
        Scene.of().takes("part: " + name, 0, x -> x.part(length, plan, weight))
            .due("part: " + name + " is told", due, x -> x.told(0, what));
    }

    /** "The NEED of a PART: what it was. BAD." */
    private static void needsOfParts() {
        Scene all = Scene.everywhere();
        all.refusesEach("need: part", StoneBeds.BAD, NO_PARTS, n -> x -> x.need(n, 1));
        all.refusesEach("need: part", StoneBeds.BAD, new int[] {39, 40, 41, 63}, n -> x -> x.need(n, 1));
        all.refuses("need: neither a part nor a need", StoneBeds.BAD, x -> x.need(21, 1001));
        all.due("need: the last part", 0, x -> x.need(20, 1));
        all.due("need: the first part", 0, x -> x.need(0, 1));
        all.due("need: what it was", 39, x -> x.need(13, 1));
    }

    private static void needIsOfAnyPart() {
        int[] wherever = {18, 17, 16, 9, 4, 5, 7, 8, 11};
        for (int part : wherever) {
            Scene.everywhere().and(x -> x.need(part, 500)).takes("need: of part " + part, 500, x -> x.need(part, 600))
                .due("need: told of part " + part, 600, x -> x.told(part, 3));
        }
    }

    /** "NEEDS .. (a number of each PART, 0 to 1000; 0 at first)" */
    private static void needs() {
        Scene one = Scene.draw(1, 10, 10);
        one.due("need: 0 at first", 0, x -> x.told(0, 3));
        Scene most = one.takes("need: 1000", 0, x -> x.need(0, 1000));
        most.due("need: 1000 is told", 1000, x -> x.told(0, 3));
        most.takes("need: 0", 1000, x -> x.need(0, 0)).due("need: 0 is told", 0, x -> x.told(0, 3));
        most.due("need: the same again", 1000, x -> x.need(0, 1000));
        Scene.everywhere().refusesEach("need: number", StoneBeds.BAD, Check.outside(0, 1000), n -> x -> x.need(3, n));
    }

    /** "Of a PART: .. BAD." */
    private static void toldIsOfAPart() {
        Scene all = Scene.everywhere();
        for (int what = 0; what <= 7; what++) {
            int asked = what;
            all.refusesEach("told: " + what + " of part", StoneBeds.BAD, NO_PARTS, n -> x -> x.told(n, asked));
        }
        all.due("told: the last part", 70, x -> x.told(20, 0));
        Scene.draw(40, 5, 5).refusesEach("told: part of forty", StoneBeds.BAD, Check.outside(0, 39), n -> x -> x.told(n, 0));
    }

    /** "A PART is at first DRAWN"; "6 CAMBER (0)" */
    private static void toldOfANewPart() {
        int[] due = {12, 3, 45, 0, 0, StoneBeds.NONE, 0, 0};
        for (int what = 0; what < due.length; what++) {
            int asked = what;
            Scene.of(x -> x.part(12, 3, 45)).due("told: new, " + what, due[what], x -> x.told(0, asked));
        }
    }

    /** "0 LENGTH .. 7 1 if it is to be STRUCK. BAD." */
    private static void toldWhat() {
        Scene.everywhere().refusesEach("told: what", StoneBeds.BAD, Check.outside(0, 7), n -> x -> x.told(0, n));
        Scene.everywhere().refuses("told: neither a part nor a what", StoneBeds.BAD, x -> x.told(21, 8));
        int[] is = {0, 1, 2, 3, 5, 6, 8, 9, 12, 14, 17, 20, 7, 11};
        for (int part : is) {
            Scene.everywhere().due("told: part " + part + " is not to be struck", 0, x -> x.told(part, 7));
        }
        Scene.everywhere().due("told: in the yard, to be struck", 1, x -> x.told(4, 7));
        Scene.everywhere().due("told: on a bed, to be struck", 1, x -> x.told(16, 7));
    }

    /** "0 DRAWN, 1 CAST, 2 LOOSE, 3 in THE YARD, 4 AWAY, 5 STRUCK, 6 on the LORRY"; "BED, STACK or TRIP (..; NONE)" */
    private static void toldWhereItIs() {
        int none = StoneBeds.NONE;
        int[][] due = {
            {18, 0, none}, {17, 1, 1}, {16, 1, 1}, {9, 2, none}, {12, 2, none}, {3, 3, 0}, {4, 3, 1}, {6, 3, 2},
            {7, 4, 0}, {11, 5, none}, {8, 6, none}};
        for (int[] d : due) {
            Scene.everywhere().due("told: where, of part " + d[0], d[1], x -> x.told(d[0], 4));
            Scene.everywhere().due("told: number, of part " + d[0], d[2], x -> x.told(d[0], 5));
        }
    }

    /** "BED, STACK or TRIP (its number from 0; NONE)" */
    private static void toldTheNumberFromNought() {
        for (int number = 0; number < 5; number++) {
            int on = number;
            if (number < 3) {
                numberIs("bed", number, Scene.draw(1, 5, 5).and(x -> x.cast(on, 0, 1)));
            }
            numberIs("stack", number, Scene.loose(1, 5, 5).and(x -> x.stack(0, on)));
            Scene trips = Scene.loose(6, 5, 5);
            for (int i = 5; i > 5 - number; i--) {
                int other = i;
                trips = trips.and(x -> x.stack(other, 0), x -> x.load(0), x -> x.go());
            }
            numberIs("trip", number, trips.and(x -> x.stack(0, 0), x -> x.load(0), x -> x.go()));
        }
    }

    private static void numberIs(String name, int due, Scene scene) {
        scene.due("told: " + name + " " + due, due, x -> x.told(0, 5));
    }

    /** "4 to 10 PARTS that are DRAWN, CAST, LOOSE, in THE YARD, AWAY, STRUCK, on the LORRY" */
    private static void counts() {
        int[] due = {21, 23, 1, 2, 5, 2, 4, 7, 1, 1, 1};
        for (int what = 0; what < due.length; what++) {
            int asked = what;
            Scene.everywhere().due("count(" + what + ")", due[what], x -> x.count(asked));
        }
    }

    /** "How many: .. BAD." */
    private static void countWhat() {
        IntFunction<Scene.Call> counting = n -> x -> x.count(n);
        Scene.everywhere().refusesEach("count: what", StoneBeds.BAD, Check.outside(0, 10), counting);
        Scene.of().refusesEach("count: new, what", StoneBeds.BAD, Check.outside(0, 10), counting);
    }

    /** "each part is somewhere" */
    private static void eachPartIsSomewhere() {
        Scene[] scenes = {Scene.of(), Scene.everywhere(), Scene.draw(40, 5, 5), Scene.yard(4, 4, 2)};
        for (Scene scene : scenes) {
            StoneBeds x = scene.made();
            int sum = 0;
            for (int what = 4; what <= 10; what++) {
                sum += x.count(what);
            }
            Check.due("count: all that are anywhere", sum, x.count(0));
        }
    }

    private static void askingChangesNothing() {
        Scene all = Scene.everywhere();
        all.leaves("told", x -> x.told(4, 7));
        all.leaves("at", x -> x.at(0, 3));
        all.leaves("bed", x -> x.bed(1, 2));
        all.leaves("lorry", x -> x.lorry(4));
        all.leaves("count", x -> x.count(10));
        all.leaves("need, the same again", x -> x.need(3, 9));
        all.leaves("warmth, the same again", x -> x.warmth(7));
    }

    /** "An object is used for at most 512 calls" */
    private static void theLastCall() {
        Scene scene = Scene.of().times(40, x -> x.part(1, 0, 1)).times(471, x -> x.part(1, 0, 1));
        scene.due("call 512: a refused one", StoneBeds.FULL, x -> x.part(1, 0, 1));
        scene.due("call 512: a cast", 32, x -> x.cast(2, 8, -1));
        scene.due("call 512: the fewest casts", 1, x -> x.casts(28, 39, 0));
        Scene late = Scene.loose(10, 1, 1).and(x -> x.stack(0, 0)).times(450, x -> x.move(0, 1)).times(46, x -> x.hours(200));
        late.due("call 511: hours", 9420, x -> x.hours(200));
        late.and(x -> x.hours(200)).due("call 512: diggings", 0, x -> x.diggings(1, 0));
    }
}
