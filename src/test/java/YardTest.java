/** Promises 9, 10, 11 and 17: THE YARD. */
public final class YardTest {
    private static final int[] NO_STACKS = Check.outside(0, 4);
    private static final int[] NO_PARTS = Check.join(Check.outside(0, 20), 39, 40, 41, 63);

    public static void main(String[] args) {
        stackPartAndStack();
        stackOfLooseOnes();
        stackIsHigh();
        stackIsFull();
        stackOfSeveralTheFirst();
        moveFromAndTo();
        moveTheTopOne();
        moveFromAnEmptyOne();
        moveToAFullOne();
        moveOfSeveralTheFirst();
        moveLaysBare();
        diggings();
        diggingsNeedRoom();
        diggingsMoveOnlyThoseAbove();
        diggingsByHand();
        diggingsOfUpToSix();
        diggingsOfParts();
        diggingsOfEachOnce();
        diggingsBitsAbove();
        diggingsInTheYard();
        diggingsOfTenAtMost();
        diggingsBadIsAheadOfNo();
        diggingsWithOnesToBeStruck();
        atFromBeneath();
        atNone();
        atBad();
        Check.end("YardTest");
    }

    /** "STACKS 0 to 4"; "BAD" */
    private static void stackPartAndStack() {
        Scene all = Scene.everywhere();
        for (int stack = 0; stack < 5; stack++) {
            int on = stack;
            Scene put = Scene.loose(2, 10, 1).takes("stack: on " + stack, 1, x -> x.stack(1, on));
            put.due("stack: lies on " + stack, 1, x -> x.at(on, 0));
            put.due("stack: is in the yard", 3, x -> x.told(1, 4));
            put.due("stack: tells " + stack, on, x -> x.told(1, 5));
            put.due("stack: the other is loose", 2, x -> x.told(0, 4));
            all.refusesEach("stack: part on " + stack, StoneBeds.BAD, NO_PARTS, n -> x -> x.stack(n, on));
        }
        all.refusesEach("stack: stack", StoneBeds.BAD, NO_STACKS, n -> x -> x.stack(9, n));
        all.refuses("stack: neither a part nor a stack", StoneBeds.BAD, x -> x.stack(21, 5));
    }

    /** "A LOOSE PART may be put on a STACK"; "NO: it is not LOOSE" */
    private static void stackOfLooseOnes() {
        int[] notLoose = {18, 17, 16, 3, 4, 5, 6, 7, 8, 11};
        for (int part : notLoose) {
            Scene.everywhere().refuses("stack: part " + part, StoneBeds.NO, x -> x.stack(part, 3));
        }
        Scene.everywhere().refuses("stack: on the stack where it lies", StoneBeds.NO, x -> x.stack(6, 2));
        Scene.everywhere().due("stack: one that is loose", 1, x -> x.stack(9, 3));
        Scene.everywhere().due("stack: one that is cut", 1, x -> x.stack(12, 3));
    }

    /** "how high that is" */
    private static void stackIsHigh() {
        Scene scene = Scene.loose(6, 10, 1);
        for (int high = 1; high <= 4; high++) {
            int part = 6 - high;
            scene = scene.takes("stack: " + high + " high", high, x -> x.stack(part, 2));
        }
        scene.due("stack: another is 1 high", 1, x -> x.stack(0, 1));
        scene.and(x -> x.move(2, 0)).due("stack: 4 high again", 4, x -> x.stack(0, 2));
        Scene.everywhere().due("stack: on two, one to be struck", 3, x -> x.stack(9, 1));
        Scene.everywhere().and(x -> x.change(5, 99, 0, 1)).due("stack: both were struck", 1, x -> x.stack(9, 1));
    }

    /** "4 PARTS high at most"; "FULL" */
    private static void stackIsFull() {
        for (int stack = 0; stack < 5; stack++) {
            int on = stack;
            Scene three = Scene.loose(5, 10, 1).and(x -> x.stack(0, on), x -> x.stack(1, on), x -> x.stack(2, on));
            three.takes("stack: a fourth on " + stack, 4, x -> x.stack(3, on))
                .refuses("stack: a fifth on " + stack, StoneBeds.FULL, x -> x.stack(4, on));
        }
        Scene.everywhere().refuses("stack: on a full one", StoneBeds.FULL, x -> x.stack(9, 0));
        Scene struck = Scene.yard(4).and(x -> x.part(5, 0, 1), x -> x.cast(0, 4, 1), x -> x.hours(20), x -> x.letGo(0));
        Scene toBe = struck.and(x -> x.change(0, 6, 0, 10));
        toBe.refuses("stack: one to be struck takes room", StoneBeds.FULL, x -> x.stack(4, 0));
        toBe.and(x -> x.change(3, 6, 0, 10)).due("stack: one that was struck takes none", 4, x -> x.stack(4, 0));
    }

    /** "BAD; NO: it is not LOOSE; FULL." "Of several the first" */
    private static void stackOfSeveralTheFirst() {
        Scene all = Scene.everywhere();
        all.refuses("stack: no stack, and not loose", StoneBeds.BAD, x -> x.stack(6, 5));
        all.refuses("stack: no part, and full", StoneBeds.BAD, x -> x.stack(21, 0));
        all.refuses("stack: not loose, and full", StoneBeds.NO, x -> x.stack(6, 0));
        all.refuses("stack: on the full one where it lies", StoneBeds.NO, x -> x.stack(3, 0));
    }

    /** "to another STACK"; "BAD (the same one, too)" */
    private static void moveFromAndTo() {
        Scene all = Scene.everywhere();
        for (int stack = 0; stack < 5; stack++) {
            int of = stack;
            all.refusesEach("move: from, to " + stack, StoneBeds.BAD, NO_STACKS, n -> x -> x.move(n, of));
            all.refusesEach("move: to, from " + stack, StoneBeds.BAD, NO_STACKS, n -> x -> x.move(of, n));
            all.refuses("move: the same one, " + stack, StoneBeds.BAD, x -> x.move(of, of));
            for (int other = 0; other < 5; other++) {
                int to = other;
                if (to != of) {
                    Scene.loose(1, 5, 5).and(x -> x.stack(0, of)).takes("move: " + of + " to " + to, 0, x -> x.move(of, to))
                        .due("move: tells " + to, to, x -> x.told(0, 5));
                }
            }
        }
        all.refusesEach("move: both", StoneBeds.BAD, NO_STACKS, n -> x -> x.move(n, n));
        all.refuses("move: no two", StoneBeds.BAD, x -> x.move(5, -1));
    }

    /** "The top one of a STACK is moved to another one: which." */
    private static void moveTheTopOne() {
        Scene moved = Scene.yard(2, 3, 0, 1).takes("move: the top one", 4, x -> x.move(1, 3));
        moved.due("move: it lies there", 4, x -> x.at(3, 1));
        moved.due("move: on the one that lay there", 5, x -> x.at(3, 0));
        moved.due("move: and here no more", StoneBeds.NONE, x -> x.at(1, 2));
        moved.due("move: the one below it stays", 3, x -> x.at(1, 1));
        moved.due("move: it is in the yard", 3, x -> x.told(4, 4));
        moved.due("move: its stack", 3, x -> x.told(4, 5));
        moved.due("move: back again", 4, x -> x.move(3, 1));
    }

    /** "NO: it is empty" */
    private static void moveFromAnEmptyOne() {
        Scene.everywhere().refuses("move: from an empty one", StoneBeds.NO, x -> x.move(3, 1));
        Scene.everywhere().refuses("move: from an empty one to an empty one", StoneBeds.NO, x -> x.move(4, 3));
        Scene one = Scene.yard(1);
        one.takes("move: the only one", 0, x -> x.move(0, 1)).refuses("move: it is gone", StoneBeds.NO, x -> x.move(0, 1));
        one.and(x -> x.load(0)).refuses("move: it was loaded", StoneBeds.NO, x -> x.move(0, 1));
        one.and(x -> x.change(0, 6, 0, 10)).refuses("move: it was struck", StoneBeds.NO, x -> x.move(0, 1));
    }

    /** "with room"; "FULL" */
    private static void moveToAFullOne() {
        for (int stack = 1; stack < 5; stack++) {
            int to = stack;
            Scene three = Scene.loose(5, 10, 1)
                .and(x -> x.stack(0, to), x -> x.stack(1, to), x -> x.stack(2, to), x -> x.stack(3, 0), x -> x.stack(4, 0));
            three.takes("move: a fourth on " + stack, 4, x -> x.move(0, to))
                .refuses("move: a fifth on " + stack, StoneBeds.FULL, x -> x.move(0, to));
        }
        Scene full = Scene.yard(4, 4);
        full.refuses("move: from a full one to a full one", StoneBeds.FULL, x -> x.move(0, 1));
        full.due("move: from a full one", 7, x -> x.move(1, 2));
        full.and(x -> x.move(1, 2)).due("move: to where there is room now", 3, x -> x.move(0, 1));
    }

    /** "BAD (the same one, too); NO: it is empty; FULL." "Of several the first" */
    private static void moveOfSeveralTheFirst() {
        Scene all = Scene.everywhere();
        all.refuses("move: no stack, from an empty one", StoneBeds.BAD, x -> x.move(3, 5));
        all.refuses("move: no stack, to a full one", StoneBeds.BAD, x -> x.move(5, 0));
        all.refuses("move: the same one, empty", StoneBeds.BAD, x -> x.move(3, 3));
        all.refuses("move: the same one, full", StoneBeds.BAD, x -> x.move(0, 0));
        all.refuses("move: from an empty one to a full one", StoneBeds.NO, x -> x.move(3, 0));
    }

    /** "in THE YARD as soon as it is a top one" */
    private static void moveLaysBare() {
        Scene two = Scene.yard(4).and(x -> x.change(0, 6, 0, 10), x -> x.change(2, 6, 0, 10));
        two.due("move: not bare yet", 3, x -> x.told(2, 4));
        Scene first = two.takes("move: lays one bare", 3, x -> x.move(0, 1));
        first.due("move: that is struck", 5, x -> x.told(2, 4));
        first.due("move: that is nowhere", StoneBeds.NONE, x -> x.told(2, 5));
        first.due("move: that is no more to be struck", 0, x -> x.told(2, 7));
        first.due("move: one below it stays", 3, x -> x.told(1, 4));
        first.due("move: one below that is still to be struck", 1, x -> x.told(0, 7));
        Scene last = first.takes("move: the next top one", 1, x -> x.move(0, 2));
        last.due("move: the last is struck", 5, x -> x.told(0, 4));
        last.refuses("move: the stack is empty", StoneBeds.NO, x -> x.move(0, 1));
        Scene three = Scene.yard(4)
            .and(x -> x.change(1, 6, 0, 10), x -> x.change(0, 6, 0, 10), x -> x.change(2, 6, 0, 10), x -> x.move(0, 4));
        three.due("move: lays three bare, one behind the other", 3, x -> x.count(9));
        three.due("move: three lay beneath it", StoneBeds.NONE, x -> x.at(0, 0));
        Scene to = Scene.yard(2, 2).and(x -> x.change(2, 6, 0, 10), x -> x.move(0, 1));
        to.due("move: onto one, one to be struck beneath", 3, x -> x.told(2, 4));
    }

    private static void digs(String name, Scene scene, int due, int... parts) {
        scene.due("diggings: " + name, due, x -> x.diggings(parts.length, Check.order(parts)));
    }

    private static void digsNot(String name, Scene scene, int due, int... parts) {
        scene.refuses("diggings: " + name, due, x -> x.diggings(parts.length, Check.order(parts)));
    }

    private static void diggings() {
        Scene yard = Scene.yard(4, 2, 1);
        digs("a top one", yard, 0, 3);
        digs("the lowest", yard, 3, 0);
        digs("the second", yard, 2, 1);
        digs("from above", yard, 0, 3, 2, 1, 0);
        digs("from beneath", yard, 3, 0, 1, 2, 3);
        digs("of two stacks", yard, 4, 0, 4);
        digs("of two stacks, one from above", yard, 3, 5, 4, 0);
        digs("one alone", yard, 0, 6);
        yard.leaves("diggings", x -> x.diggings(2, Check.order(0, 4)));
        yard.leaves("diggings of six", x -> x.diggings(6, Check.order(0, 4, 2, 1, 3, 6)));
    }

    /** "to STACKS (not its own) that have room" */
    private static void diggingsNeedRoom() {
        // PART 1 could stay on STACK 1, where none is wanted, if there was room.
        digs("the one free of those wanted has room", Scene.yard(2, 3, 1, 1, 1), 1, 0, 5, 6, 7);
        digs("the one free of those wanted is full", Scene.yard(2, 4, 1, 1, 1), 2, 0, 6, 7, 8);
        digs("it has room for two", Scene.yard(3, 2, 1, 1, 1), 2, 0, 5, 6, 7);
        digs("it has room for one of two", Scene.yard(3, 3, 1, 1, 1), 3, 0, 6, 7, 8);
        digs("beside a full one", Scene.yard(4, 4, 1, 1), 3, 0);
        digs("all on one", Scene.yard(4, 4).and(x -> x.move(1, 2)), 3, 0);
    }

    /** "if only PARTS are moved that lie above the next one to be taken" */
    private static void diggingsMoveOnlyThoseAbove() {
        // Three moves would do, if PART 3 might be laid on PART 4 ahead of its turn.
        digs("two must be moved again", Scene.yard(3, 1, 1, 1, 1), 4, 0, 3, 4, 5, 6);
        digs("three must be moved again", Scene.yard(4, 1, 1, 1, 1), 6, 0, 4, 5, 6, 7);
    }

    private static void diggingsByHand() {
        // PART 1 goes on the one STACK where it lies on none that is wanted.
        digs("moved once", Scene.yard(2, 1, 1, 1, 1), 1, 0, 2, 3, 4);
        // Each other STACK holds one that is wanted: PART 1 must be moved again.
        digs("moved twice", Scene.yard(2, 1, 1, 1, 1), 2, 0, 2, 3, 4, 5);
        digs("moved twice, wanted last", Scene.yard(2, 1, 1, 1, 1), 2, 0, 2, 3, 4, 5, 1);
        digs("wanted next, moved once", Scene.yard(2, 1, 1, 1, 1), 1, 0, 1, 2, 3, 4, 5);
        // PARTS 2, 6, 9 on STACK 0, 3 on 1, 0 on 2, 4, 5, 7, 8 on 3, 1 on 4: no order in a yard of ten was seen to ask for more.
        Scene most = Scene.loose(10, 5, 5);
        int[] stacks = {2, 4, 0, 1, 3, 3, 0, 3, 3, 0};
        for (int i = 0; i < stacks.length; i++) {
            int part = i;
            most = most.and(x -> x.stack(part, stacks[part]));
        }
        digs("nine", most, 9, 4, 2, 3, 0, 1, 9);
        // PART 2 goes on PART 3, which is wanted later, so that the empty STACK 1 is left for PART 1.
        digs("an empty one is kept for the next", Scene.yard(3, 0, 1, 4, 1), 2, 0, 8, 2, 3, 1);
        // The order begins with top ones, which makes room.
        digs("top ones first", Scene.yard(3, 1, 1, 1, 1), 2, 3, 4, 5, 6, 0);
    }

    /** "n not 0 to 6"; "a row of up to 6 PARTS" */
    private static void diggingsOfUpToSix() {
        Scene yard = Scene.yard(4, 3);
        digs("none", yard, 0);
        digs("none, in an empty yard", Scene.of(), 0);
        digs("six", yard, 5, 0, 1, 2, 3, 4, 5);
        digs("six from above", yard, 0, 6, 5, 3, 2, 1, 0);
        Scene.everywhere().refusesEach("diggings: n", StoneBeds.BAD, Check.outside(0, 6), n -> x -> x.diggings(n, 0));
        yard.refusesEach("diggings: n, an order of one,", StoneBeds.BAD, Check.outside(0, 6), n -> x -> x.diggings(n, 6));
        digsNot("seven", yard, StoneBeds.BAD, 0, 1, 2, 3, 4, 5, 6);
        yard.refuses("diggings: 11, of which six bits each would turn around", StoneBeds.BAD, x -> x.diggings(11, 3));
    }

    /** "one is no PART" */
    private static void diggingsOfParts() {
        Scene yard = Scene.yard(4, 3);
        digs("the last part", yard, 0, 6);
        int[] none = {7, 8, 39, 40, 62, 63};
        for (int part : none) {
            digsNot("no part, " + part, yard, StoneBeds.BAD, part);
            digsNot("no part last, " + part, yard, StoneBeds.BAD, 0, 1, 2, 3, 4, part);
            digsNot("no part first, " + part, yard, StoneBeds.BAD, part, 1, 2, 3, 4, 5);
        }
        Scene forty = Scene.draw(40, 1, 1)
            .and(x -> x.cast(0, 39, 1), x -> x.hours(20), x -> x.letGo(0), x -> x.stack(39, 0));
        digs("part 39", forty, 0, 39);
        digsNot("part 40", forty, StoneBeds.BAD, 40);
        digsNot("part 63", forty, StoneBeds.BAD, 39, 63);
    }

    /** "each once"; "one twice" */
    private static void diggingsOfEachOnce() {
        Scene yard = Scene.yard(4, 3);
        digsNot("one twice", yard, StoneBeds.BAD, 3, 3);
        digsNot("part 0 twice", yard, StoneBeds.BAD, 0, 0);
        digsNot("one twice, another between", yard, StoneBeds.BAD, 2, 3, 2);
        digsNot("the first and the sixth", yard, StoneBeds.BAD, 0, 1, 2, 3, 4, 0);
        digsNot("the fifth and the sixth", yard, StoneBeds.BAD, 0, 1, 2, 3, 4, 4);
        yard.refuses("diggings: one of two is not told, it is part 0", StoneBeds.BAD, x -> x.diggings(2, 0));
    }

    /** "six bits a PART, the first one lowest, n of them"; "bits above" */
    private static void diggingsBitsAbove() {
        Scene yard = Scene.yard(4, 3);
        digs("the first one lowest", yard, 3, 0, 3);
        digs("the first one lowest, turned", yard, 2, 3, 0);
        for (int n = 0; n <= 6; n++) {
            int of = n;
            long order = Check.order(0, 1, 2, 3, 4, 5) & (1L << 6 * n) - 1;
            yard.due("diggings: no bits above, " + n, new int[] {0, 3, 3, 3, 3, 5, 5}[n], x -> x.diggings(of, order));
            for (int bit = 6 * n; bit < 64; bit++) {
                int above = bit;
                boolean all = bit == 6 * n || bit == 31 || bit == 32 || bit == 36 || bit == 63;
                Scene.Call call = x -> x.diggings(of, order | 1L << above);
                String name = "diggings: of " + n + " with bit " + bit;
                if (all) {
                    yard.refuses(name, StoneBeds.BAD, call);
                } else {
                    yard.due(name, StoneBeds.BAD, call);
                }
            }
            yard.refuses("diggings: of " + n + ", all bits", StoneBeds.BAD, x -> x.diggings(of, -1L));
        }
        // The sixth one's bits go beyond an int.
        digs("the sixth is part 4", Scene.yard(4, 1, 1), 3, 0, 1, 2, 3, 5, 4);
        Scene last = Scene.draw(40, 1, 1).and(x -> x.cast(0, 8, -1), x -> x.hours(20), x -> x.letGo(0))
            .and(x -> x.stack(39, 0), x -> x.stack(38, 0), x -> x.stack(37, 1), x -> x.stack(36, 1))
            .and(x -> x.stack(35, 2), x -> x.stack(34, 2));
        digs("the last six parts", last, 3, 39, 38, 37, 36, 35, 34);
        digs("the last six parts from above", last, 0, 34, 35, 36, 37, 38, 39);
    }

    /** "a row of up to 6 PARTS in THE YARD"; "NO: one is not in THE YARD" */
    private static void diggingsInTheYard() {
        int[] notThere = {18, 17, 16, 9, 12, 7, 8, 11};
        for (int part : notThere) {
            digsNot("part " + part, Scene.everywhere(), StoneBeds.NO, part);
            digsNot("part " + part + " behind others", Scene.everywhere(), StoneBeds.NO, 0, 5, 6, part);
            digsNot("part " + part + " ahead of others", Scene.everywhere(), StoneBeds.NO, part, 0);
        }
        digs("all are there", Scene.everywhere(), 4, 0, 4, 6);
    }

    private static Scene dug(int n) {
        Scene scene = Scene.loose(12, 5, 1);
        for (int i = 0; i < n; i++) {
            int part = i;
            scene = scene.and(x -> x.stack(part, part % 5));
        }
        return scene;
    }

    /** "10 PARTS at most are in it"; "NO: .. more than 10 are there" */
    private static void diggingsOfTenAtMost() {
        digs("ten are there", dug(10), 1, 0);
        digs("ten are there, none is wanted", dug(10), 0);
        digs("ten are there, six are wanted", dug(10), 6, 0, 1, 2, 3, 4, 9);
        digsNot("eleven are there", dug(11), StoneBeds.NO, 0);
        digsNot("eleven are there, a top one", dug(11), StoneBeds.NO, 10);
        digsNot("eleven are there, none is wanted", dug(11), StoneBeds.NO);
        digsNot("twelve are there", dug(12), StoneBeds.NO, 0);
        digs("one of eleven was loaded", dug(11).and(x -> x.load(0)), 1, 0);
        digs("one of eleven was struck", dug(11).and(x -> x.change(10, 6, 0, 1)), 1, 0);
        digsNot("one of eleven is to be struck", dug(11).and(x -> x.change(0, 6, 0, 1)), StoneBeds.NO, 1);
        digs("two full ones and two more", Scene.yard(4, 4, 2), 7, 0, 4, 8);
    }

    /** "Of several the first" */
    private static void diggingsBadIsAheadOfNo() {
        digsNot("one is loose, one no part", dug(10), StoneBeds.BAD, 10, 12);
        digsNot("one is loose, twice", dug(10), StoneBeds.BAD, 10, 10);
        digsNot("eleven are there, one no part", dug(11), StoneBeds.BAD, 12);
        digsNot("eleven are there, one twice", dug(11), StoneBeds.BAD, 0, 0);
        dug(10).refuses("diggings: one is loose, bits above", StoneBeds.BAD, x -> x.diggings(1, Check.order(10, 1)));
        dug(11).refuses("diggings: eleven are there, bits above", StoneBeds.BAD, x -> x.diggings(0, 1));
        dug(11).refuses("diggings: eleven are there, n 7", StoneBeds.BAD, x -> x.diggings(7, 0));
        dug(11).refuses("diggings: eleven are there, n -1", StoneBeds.BAD, x -> x.diggings(-1, 0));
    }

    /** "(Those to be STRUCK are as others there.)" */
    private static void diggingsWithOnesToBeStruck() {
        Scene two = Scene.yard(4, 1).and(x -> x.change(1, 6, 0, 10), x -> x.change(2, 6, 0, 10));
        digs("those to be struck are moved as others", two, 3, 0);
        digs("one to be struck can be wanted", two, 2, 1);
        digs("all of them, those to be struck too", two, 3, 0, 1, 2, 3);
        two.leaves("diggings over those to be struck", x -> x.diggings(1, 0));
    }

    /** "The i-th PART of a STACK from beneath." */
    private static void atFromBeneath() {
        for (int stack = 0; stack < 5; stack++) {
            int of = stack;
            Scene full = Scene.loose(4, 5, 5)
                .and(x -> x.stack(3, of), x -> x.stack(1, of), x -> x.stack(0, of), x -> x.stack(2, of));
            int[] due = {3, 1, 0, 2, StoneBeds.NONE};
            for (int i = 0; i < due.length; i++) {
                int place = i;
                full.due("at(" + stack + ", " + i + ")", due[i], x -> x.at(of, place));
            }
        }
    }

    /** "NONE" */
    private static void atNone() {
        Scene three = Scene.yard(0, 3);
        three.due("at: the top one", 2, x -> x.at(1, 2));
        int[] above = {3, 4, 5, 7, 39, 40, 63, 255, 256, 258, 65536, 65538, Integer.MAX_VALUE - 1, Integer.MAX_VALUE};
        for (int i : above) {
            three.refuses("at: above the top, " + i, StoneBeds.NONE, x -> x.at(1, i));
            three.due("at: of an empty one, " + i, StoneBeds.NONE, x -> x.at(0, i));
        }
        three.due("at: of an empty one, 0", StoneBeds.NONE, x -> x.at(0, 0));
        three.due("at: of the last one, 0", StoneBeds.NONE, x -> x.at(4, 0));
        three.and(x -> x.load(1)).due("at: what was loaded is gone", StoneBeds.NONE, x -> x.at(1, 2));
        three.and(x -> x.move(1, 2)).due("at: what was moved is gone", StoneBeds.NONE, x -> x.at(1, 2));
        three.and(x -> x.change(2, 6, 0, 10)).due("at: what was struck is gone", StoneBeds.NONE, x -> x.at(1, 2));
    }

    /** "BAD" */
    private static void atBad() {
        Scene all = Scene.everywhere();
        all.refusesEach("at: stack", StoneBeds.BAD, NO_STACKS, n -> x -> x.at(n, 0));
        all.refusesEach("at: stack, and no such place,", StoneBeds.BAD, NO_STACKS, n -> x -> x.at(n, 7));
        all.refusesEach("at: stack, and below nought,", StoneBeds.BAD, NO_STACKS, n -> x -> x.at(n, -1));
        int[] below = {-1, -2, -4, -5, -255, -256, -65536, Integer.MIN_VALUE, Integer.MIN_VALUE + 1};
        for (int stack = 0; stack < 5; stack++) {
            int of = stack;
            all.refusesEach("at: of stack " + stack + " place", StoneBeds.BAD, below, n -> x -> x.at(of, n));
        }
    }
}
