/** Promise 15: a CHANGE. */
public final class ChangeTest {
    private static final int[] NO_PARTS = Check.join(Check.outside(0, 20), 39, 40, 41, 63);

    public static void main(String[] args) {
        ofAPart();
        lengths();
        plans();
        weights();
        beyondChange();
        toBeStruck();
        asItWas();
        drawn();
        drawnAtItsEnds();
        looseIsCut();
        looseIsCutByOne();
        lessOnABed();
        lessInTheYard();
        looseIsStruck();
        aNewPart();
        onABed();
        onABedLetGo();
        inTheYardOnTop();
        inTheYardBeneath();
        inTheYardLaidBare();
        onTopOfOnesToBeStruck();
        fortyParts();
        fortyPartsWithoutANewOne();
        ofSeveralTheFirst();
        Check.end("ChangeTest");
    }

    private static void is(String name, Scene scene, int part, int... told) {
        for (int what = 0; what < told.length; what++) {
            int asked = what;
            scene.due("change: " + name + ", told " + what, told[what], x -> x.told(part, asked));
        }
    }

    /** "BAD" */
    private static void ofAPart() {
        Scene.everywhere().refusesEach("change: part", StoneBeds.BAD, NO_PARTS, n -> x -> x.change(n, 50, 3, 50));
        Scene.draw(40, 5, 5).refusesEach("change: part of forty", StoneBeds.BAD, Check.outside(0, 39), n -> x -> x.change(n, 5, 0, 5));
        Scene.everywhere().due("change: the last part", 0, x -> x.change(20, 50, 3, 50));
    }

    /** One of each: DRAWN, on a BED, LOOSE, on top in THE YARD, beneath. */
    private static final int[] CHANGED = {19, 17, 9, 3, 1};

    /** "a LENGTH (1 to 200)" */
    private static void lengths() {
        for (int part : CHANGED) {
            Scene.everywhere().refusesEach("change: of " + part + " length", StoneBeds.BAD, Check.outside(1, 200), n -> x -> x.change(part, n, 3, 50));
        }
        Scene.everywhere().and(x -> x.change(19, 1, 3, 50)).due("change: length 1", 1, x -> x.told(19, 0));
        Scene.everywhere().and(x -> x.change(19, 200, 3, 50)).due("change: length 200", 200, x -> x.told(19, 0));
        Scene.everywhere().and(x -> x.change(9, 200, 0, 50)).due("change: a new one's length 200", 200, x -> x.told(21, 0));
        Scene.everywhere().and(x -> x.change(9, 1, 3, 50)).due("change: a new one's length 1", 1, x -> x.told(21, 0));
    }

    /** "a PLAN (0 to 7)" */
    private static void plans() {
        for (int part : CHANGED) {
            Scene.everywhere().refusesEach("change: of " + part + " plan", StoneBeds.BAD, Check.outside(0, 7), n -> x -> x.change(part, 50, n, 50));
        }
        Scene.everywhere().and(x -> x.change(19, 50, 0, 50)).due("change: plan 0", 0, x -> x.told(19, 1));
        Scene.everywhere().and(x -> x.change(19, 50, 7, 50)).due("change: plan 7", 7, x -> x.told(19, 1));
        Scene.everywhere().and(x -> x.change(9, 50, 7, 50)).due("change: a new one's plan 7", 7, x -> x.told(21, 1));
        Scene.everywhere().and(x -> x.change(17, 50, 0, 50)).due("change: a new one's plan 0", 0, x -> x.told(21, 1));
    }

    /** "a WEIGHT (1 to 100)" */
    private static void weights() {
        for (int part : CHANGED) {
            Scene.everywhere().refusesEach("change: of " + part + " weight", StoneBeds.BAD, Check.outside(1, 100), n -> x -> x.change(part, 50, 3, n));
        }
        Scene.everywhere().and(x -> x.change(19, 50, 3, 1)).due("change: weight 1", 1, x -> x.told(19, 2));
        Scene.everywhere().and(x -> x.change(19, 50, 3, 100)).due("change: weight 100", 100, x -> x.told(19, 2));
        Scene.everywhere().and(x -> x.change(9, 50, 3, 100)).due("change: a new one's weight 100", 100, x -> x.told(21, 2));
        Scene.everywhere().and(x -> x.change(9, 50, 3, 1)).due("change: a new one's weight 1", 1, x -> x.told(21, 2));
    }

    private static void isNotChanged(String name, int part, int length, int plan, int weight) {
        Scene all = Scene.everywhere();
        all.refuses("change: " + name + ", as it was", StoneBeds.NO, x -> x.change(part, length, plan, weight));
        all.refuses("change: " + name + ", shorter", StoneBeds.NO, x -> x.change(part, length - 1, plan, weight));
        all.refuses("change: " + name + ", longer", StoneBeds.NO, x -> x.change(part, length + 1, plan, weight));
        all.refuses("change: " + name + ", another plan", StoneBeds.NO, x -> x.change(part, length, plan + 1, weight));
        all.refuses("change: " + name + ", lighter", StoneBeds.NO, x -> x.change(part, length, plan, weight - 1));
        all.refuses("change: " + name + ", heavier", StoneBeds.NO, x -> x.change(part, length, plan, weight + 1));
    }

    /** "one that is AWAY, on the LORRY, STRUCK, ..: NO" */
    private static void beyondChange() {
        isNotChanged("away", 7, 17, 0, 12);
        isNotChanged("on the lorry", 8, 18, 0, 13);
        isNotChanged("struck", 11, 21, 0, 16);
        Scene.everywhere().and(x -> x.go()).refuses("change: away by the next", StoneBeds.NO, x -> x.change(8, 50, 3, 50));
        Scene struck = Scene.everywhere().and(x -> x.change(5, 99, 0, 1));
        struck.refuses("change: struck on top", StoneBeds.NO, x -> x.change(5, 50, 3, 50));
        struck.refuses("change: struck, laid bare", StoneBeds.NO, x -> x.change(4, 50, 3, 50));
    }

    /** "one that is .. to be STRUCK: NO" */
    private static void toBeStruck() {
        isNotChanged("to be struck, in the yard", 4, 14, 0, 9);
        isNotChanged("to be struck, on a bed", 16, 130, 2, 30);
    }

    /** "If all three are as they were: 2, nothing changes." */
    private static void asItWas() {
        Scene all = Scene.everywhere();
        all.refuses("change: as it was, drawn", 2, x -> x.change(19, 60, 1, 60));
        all.refuses("change: as it was, on a bed", 2, x -> x.change(17, 140, 2, 40));
        all.refuses("change: as it was, loose", 2, x -> x.change(9, 19, 0, 14));
        all.refuses("change: as it was when it was cut", 2, x -> x.change(12, 5, 0, 1));
        all.refuses("change: as it was, on top", 2, x -> x.change(3, 13, 0, 8));
        all.refuses("change: as it was, beneath", 2, x -> x.change(0, 10, 0, 5));
        Scene.draw(40, 5, 5).refuses("change: as it was, one of forty", 2, x -> x.change(39, 5, 0, 5));
    }

    /** "DRAWN: it gets them (0)." */
    private static void drawn() {
        Scene one = Scene.of(x -> x.part(100, 3, 50), x -> x.need(0, 9));
        int[][] news = {{99, 3, 50}, {101, 3, 50}, {100, 2, 50}, {100, 4, 50}, {100, 3, 49}, {100, 3, 51}, {99, 3, 49}, {101, 4, 51}};
        for (int[] to : news) {
            Scene then = one.takes("change: drawn", 0, x -> x.change(0, to[0], to[1], to[2]));
            is("drawn", then, 0, to[0], to[1], to[2], 9, 0, StoneBeds.NONE, 0, 0);
            then.due("change: drawn, no new one", 1, x -> x.count(0));
        }
        Scene made = Scene.everywhere().takes("change: drawn, itself a new one", 0, x -> x.change(14, 98, 0, 1));
        is("drawn, itself a new one", made, 14, 98, 0, 1, 33, 0);
    }

    private static void drawnAtItsEnds() {
        Scene least = Scene.of(x -> x.part(1, 0, 1));
        is("drawn, to the most", least.takes("change: to the most", 0, x -> x.change(0, 200, 7, 100)), 0, 200, 7, 100);
        Scene most = Scene.of(x -> x.part(200, 7, 100));
        is("drawn, to the least", most.takes("change: to the least", 0, x -> x.change(0, 1, 0, 1)), 0, 1, 0, 1);
    }

    /** "with its PLAN, a lesser LENGTH and no more WEIGHT: LOOSE it is CUT to them (1)" */
    private static void looseIsCut() {
        Scene one = Scene.loose(1, 100, 10).and(x -> x.need(0, 9));
        int camber = 100 * 100 / 1500;
        Scene cut = one.takes("change: cut", 1, x -> x.change(0, 99, 0, 10));
        is("cut", cut, 0, 99, 0, 10, 9, 2, StoneBeds.NONE, camber, 0);
        Scene again = cut.takes("change: cut again", 1, x -> x.change(0, 1, 0, 1));
        is("cut again", again, 0, 1, 0, 1, 9, 2, StoneBeds.NONE, camber, 0);
        again.due("change: cut, no new one", 1, x -> x.count(0));
        again.due("change: cut, still loose", 1, x -> x.stack(0, 0));
        cut.due("change: to what it was before the cut", 101, x -> x.change(0, 100, 0, 10));
    }

    private static void looseIsCutByOne() {
        Scene one = Scene.loose(1, 100, 10);
        one.due("change: one shorter", 1, x -> x.change(0, 99, 0, 10));
        one.due("change: one shorter and lighter", 1, x -> x.change(0, 99, 0, 9));
        one.due("change: one shorter and heavier", 101, x -> x.change(0, 99, 0, 11));
        one.due("change: as long, lighter", 101, x -> x.change(0, 100, 0, 9));
        one.due("change: as long, heavier", 101, x -> x.change(0, 100, 0, 11));
        one.due("change: one longer", 101, x -> x.change(0, 101, 0, 10));
        one.due("change: one longer and lighter", 101, x -> x.change(0, 101, 0, 9));
        one.due("change: one shorter, of another plan", 101, x -> x.change(0, 99, 1, 10));
    }

    /** "on a BED, ..: NO" */
    private static void lessOnABed() {
        Scene cast = Scene.draw(3, 100, 10).and(x -> x.cast(1, 0, 3));
        cast.refuses("change: on a bed, one shorter", StoneBeds.NO, x -> x.change(0, 99, 0, 10));
        cast.refuses("change: on a bed, one shorter and lighter", StoneBeds.NO, x -> x.change(0, 99, 0, 9));
        cast.refuses("change: on a bed, the least", StoneBeds.NO, x -> x.change(1, 1, 0, 1));
        cast.due("change: on a bed, one shorter and heavier", 103, x -> x.change(0, 99, 0, 11));
        cast.due("change: on a bed, as long, lighter", 103, x -> x.change(0, 100, 0, 9));
        cast.due("change: on a bed, one shorter, of another plan", 103, x -> x.change(0, 99, 1, 10));
    }

    /** "in THE YARD: NO" */
    private static void lessInTheYard() {
        Scene yard = Scene.yard(3, 1);
        for (int part = 0; part < 4; part++) {
            int of = part;
            yard.refuses("change: in the yard, one shorter, " + part, StoneBeds.NO, x -> x.change(of, 4, 0, 10));
            yard.refuses("change: in the yard, the least, " + part, StoneBeds.NO, x -> x.change(of, 1, 0, 1));
            yard.due("change: in the yard, one shorter and heavier, " + part, 104, x -> x.change(of, 4, 0, 11));
            yard.due("change: in the yard, as long, lighter, " + part, 104, x -> x.change(of, 5, 0, 9));
            yard.due("change: in the yard, of another plan, " + part, 104, x -> x.change(of, 4, 1, 9));
        }
    }

    /** "it is STRUCK: LOOSE at once" */
    private static void looseIsStruck() {
        int[][] news = {{100, 0, 9}, {100, 0, 11}, {99, 0, 11}, {101, 0, 10}, {101, 0, 9}, {99, 1, 9}, {100, 1, 10}};
        for (int[] to : news) {
            Scene then = Scene.loose(2, 100, 10).and(x -> x.need(1, 77))
                .takes("change: loose, new", 102, x -> x.change(1, to[0], to[1], to[2]));
            is("loose, the old one", then, 1, 100, 0, 10, 77, 5, StoneBeds.NONE, 6, 0);
            is("loose, the new one", then, 2, to[0], to[1], to[2], 77, 0, StoneBeds.NONE, 0, 0);
            is("loose, the other", then, 0, 100, 0, 10, 0, 2);
        }
    }

    /** "a new PART with them and its NEED is DRAWN (100 and the new one's number)" */
    private static void aNewPart() {
        Scene one = Scene.loose(1, 10, 10).and(x -> x.need(0, 1000));
        Scene first = one.takes("change: the first new one", 101, x -> x.change(0, 200, 7, 100));
        is("the first new one", first, 1, 200, 7, 100, 1000, 0, StoneBeds.NONE, 0, 0);
        first.due("change: the next part's number", 2, x -> x.part(1, 0, 1));
        Scene needs = first.and(x -> x.need(0, 3));
        needs.due("change: the old one's need is its own", 1000, x -> x.told(1, 3));
        needs.due("change: the new one is cast", 1, x -> x.cast(0, 1, 1));
        Scene last = Scene.loose(1, 10, 10).times(38, x -> x.part(1, 0, 1));
        last.due("change: the 40th", 139, x -> x.change(0, 11, 0, 10));
    }

    /** "else it is to be STRUCK: on a BED, .." */
    private static void onABed() {
        Scene cast = Scene.draw(3, 100, 10).and(x -> x.cast(1, 0, 3));
        Scene toBe = cast.takes("change: on a bed", 103, x -> x.change(0, 100, 0, 9));
        is("on a bed, the old one", toBe, 0, 100, 0, 10, 0, 1, 1, 0, 1);
        is("on a bed, the new one", toBe, 3, 100, 0, 9, 0, 0, StoneBeds.NONE, 0, 0);
        toBe.due("change: the bed's length is as it was", 204, x -> x.bed(1, 1));
        toBe.due("change: the bed's parts are as they were", 2, x -> x.bed(1, 0));
        toBe.due("change: none is struck yet", 0, x -> x.count(9));
        toBe.due("change: both are cast still", 2, x -> x.count(5));
    }

    /** "on a BED, when that is LET GO" */
    private static void onABedLetGo() {
        Scene cast = Scene.draw(3, 100, 10)
            .and(x -> x.cast(0, 0, 1), x -> x.cast(1, 1, 3), x -> x.change(1, 100, 0, 9), x -> x.hours(20));
        cast.due("change: not struck by its hours", 1, x -> x.told(1, 4));
        cast.and(x -> x.letGo(0)).due("change: not struck by another bed", 1, x -> x.told(1, 4));
        cast.and(x -> x.letGo(2)).due("change: not struck by an empty bed", 1, x -> x.told(1, 4));
        Scene gone = cast.takes("change: let go", 1, x -> x.letGo(1));
        is("let go", gone, 1, 100, 0, 10, 0, 5, StoneBeds.NONE, 6, 0);
        is("let go, the other", gone, 2, 100, 0, 10, 0, 2);
    }

    /** "in THE YARD if it is a top one, at once" */
    private static void inTheYardOnTop() {
        Scene yard = Scene.yard(3, 1);
        Scene top = yard.takes("change: top one", 104, x -> x.change(2, 5, 1, 10));
        is("top one", top, 2, 5, 0, 10, 0, 5, StoneBeds.NONE, 0, 0);
        top.due("change: it lies there no more", StoneBeds.NONE, x -> x.at(0, 2));
        top.due("change: the one below it does", 1, x -> x.at(0, 1));
        top.due("change: that is the top one now", 105, x -> x.change(1, 5, 1, 10));
        Scene alone = yard.takes("change: alone on a stack", 104, x -> x.change(3, 6, 0, 10));
        alone.due("change: that stack is empty", StoneBeds.NONE, x -> x.at(1, 0));
    }

    private static void inTheYardBeneath() {
        for (int part = 0; part < 3; part++) {
            int of = part;
            Scene beneath = Scene.yard(4).takes("change: beneath, " + part, 104, x -> x.change(of, 6, 0, 10));
            is("beneath", beneath, of, 5, 0, 10, 0, 3, 0, 0, 1);
            beneath.due("change: it lies there still, " + part, of, x -> x.at(0, of));
            beneath.due("change: the stack is full still", 4, x -> x.count(7));
        }
    }

    /** "in THE YARD as soon as it is a top one" */
    private static void inTheYardLaidBare() {
        Scene beneath = Scene.yard(3).and(x -> x.change(1, 6, 0, 10));
        Scene.Call[] bare = {x -> x.move(0, 1), x -> x.load(0), x -> x.change(2, 6, 0, 10)};
        for (Scene.Call call : bare) {
            Scene then = beneath.and(call);
            is("laid bare", then, 1, 5, 0, 10, 0, 5, StoneBeds.NONE, 0, 0);
            then.due("change: the lowest is the top one", StoneBeds.NONE, x -> x.at(0, 1));
            then.due("change: the lowest stays", 0, x -> x.at(0, 0));
        }
        beneath.and(x -> x.hours(200)).due("change: not by hours", 3, x -> x.told(1, 4));
        beneath.and(x -> x.change(0, 6, 0, 10)).due("change: not by one below it", 3, x -> x.told(1, 4));
    }

    private static void onTopOfOnesToBeStruck() {
        Scene two = Scene.yard(4).and(x -> x.change(2, 6, 0, 10), x -> x.change(0, 6, 0, 10));
        Scene top = two.takes("change: the top one", 106, x -> x.change(3, 6, 0, 10));
        top.due("change: the one beneath goes too", 5, x -> x.told(2, 4));
        top.due("change: the one that stays", 3, x -> x.told(1, 4));
        top.due("change: the lowest is still to be struck", 1, x -> x.told(0, 7));
        Scene next = top.takes("change: the next top one", 107, x -> x.change(1, 6, 0, 10));
        next.due("change: the lowest goes too", 5, x -> x.told(0, 4));
        next.due("change: none is left", 0, x -> x.count(7));
        next.due("change: four are struck", 4, x -> x.count(9));
    }

    /** 40 PARTS: 0 and 1 on STACK 0, 2 and 4 LOOSE, 3 on the LORRY, 5 AWAY, 6 and 7 on BED 0, the others DRAWN. */
    private static Scene forty() {
        return Scene.loose(6, 10, 10)
            .and(x -> x.stack(5, 0), x -> x.load(0), x -> x.go(), x -> x.stack(0, 0), x -> x.stack(1, 0))
            .and(x -> x.stack(3, 1), x -> x.load(1))
            .times(34, x -> x.part(10, 0, 10))
            .and(x -> x.cast(0, 6, 3));
    }

    /** "FULL: 40 PARTS" */
    private static void fortyParts() {
        int[] parts = {2, 1, 0, 6, 4};
        for (int part : parts) {
            forty().refuses("change: 40, longer, " + part, StoneBeds.FULL, x -> x.change(part, 11, 0, 10));
            forty().refuses("change: 40, of another plan, " + part, StoneBeds.FULL, x -> x.change(part, 9, 1, 10));
            forty().refuses("change: 40, lighter, " + part, StoneBeds.FULL, x -> x.change(part, 10, 0, 9));
        }
        Scene most = Scene.loose(2, 10, 10).times(37, x -> x.part(1, 0, 1));
        Scene then = most.takes("change: the 40th", 139, x -> x.change(0, 11, 0, 10));
        then.refuses("change: a 41st", StoneBeds.FULL, x -> x.change(1, 11, 0, 10));
    }

    /** "(only where a new one must be)" */
    private static void fortyPartsWithoutANewOne() {
        forty().due("change: 40, cut", 1, x -> x.change(2, 9, 0, 10));
        forty().due("change: 40, drawn", 0, x -> x.change(39, 11, 1, 11));
        forty().refuses("change: 40, as it was", 2, x -> x.change(6, 10, 0, 10));
        forty().refuses("change: 40, less on a bed", StoneBeds.NO, x -> x.change(6, 9, 0, 10));
        forty().refuses("change: 40, less in the yard", StoneBeds.NO, x -> x.change(1, 9, 0, 10));
    }

    /** "BAD; NO; FULL" "Of several the first" */
    private static void ofSeveralTheFirst() {
        int[] no = {7, 8, 11, 4, 16};
        for (int part : no) {
            Scene.everywhere().refuses("change: no, and no length, " + part, StoneBeds.BAD, x -> x.change(part, 0, 0, 1));
            Scene.everywhere().refuses("change: no, and no plan, " + part, StoneBeds.BAD, x -> x.change(part, 1, 8, 1));
            Scene.everywhere().refuses("change: no, and no weight, " + part, StoneBeds.BAD, x -> x.change(part, 1, 0, 101));
        }
        forty().refuses("change: 40, and no length", StoneBeds.BAD, x -> x.change(2, 201, 0, 10));
        forty().refuses("change: 40, and no plan", StoneBeds.BAD, x -> x.change(2, 11, -1, 10));
        forty().refuses("change: 40, and no weight", StoneBeds.BAD, x -> x.change(2, 11, 0, 0));
        forty().refuses("change: 40, and no part", StoneBeds.BAD, x -> x.change(40, 11, 0, 10));
        forty().refuses("change: 40, and away", StoneBeds.NO, x -> x.change(5, 11, 0, 10));
        forty().refuses("change: 40, and on the lorry", StoneBeds.NO, x -> x.change(3, 11, 0, 10));
        Scene struck = Scene.loose(2, 10, 10).and(x -> x.change(1, 11, 0, 10)).times(37, x -> x.part(1, 0, 1));
        struck.refuses("change: 40, and struck", StoneBeds.NO, x -> x.change(1, 12, 0, 10));
    }
}
