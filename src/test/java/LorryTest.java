/** Promises 12, 13 and 14: the LORRY. */
public final class LorryTest {
    private static final int[] NO_STACKS = Check.outside(0, 4);

    public static void main(String[] args) {
        loadOfAStack();
        loadOfAnEmptyStack();
        loadTheTopOne();
        loadFourParts();
        loadWeight();
        loadFrontAxle();
        loadRearAxle();
        loadOfSeveralTheFirst();
        loadLaysBare();
        goOfAnEmptyOne();
        goAway();
        goNumbersTrips();
        goMakesRoom();
        lorryWhat();
        lorryTold();
        lorryOfNone();
        right();
        rightNeedsByOne();
        rightNow();
        Check.end("LorryTest");
    }

    /** "BAD" */
    private static void loadOfAStack() {
        for (int stack = 0; stack < 5; stack++) {
            int of = stack;
            Scene loaded = Scene.loose(1, 5, 5).and(x -> x.stack(0, of)).takes("load: of stack " + stack, 0, x -> x.load(of));
            loaded.due("load: is on the lorry", 6, x -> x.told(0, 4));
            loaded.due("load: has no number there", StoneBeds.NONE, x -> x.told(0, 5));
            loaded.due("load: is on the stack no more", StoneBeds.NONE, x -> x.at(of, 0));
        }
        Scene.everywhere().refusesEach("load: stack", StoneBeds.BAD, NO_STACKS, n -> x -> x.load(n));
        Scene.of().refusesEach("load: new, stack", StoneBeds.BAD, NO_STACKS, n -> x -> x.load(n));
    }

    /** "NO: the STACK is empty" */
    private static void loadOfAnEmptyStack() {
        Scene.everywhere().refuses("load: an empty stack", StoneBeds.NO, x -> x.load(3));
        Scene.everywhere().refuses("load: the last stack, empty", StoneBeds.NO, x -> x.load(4));
        Scene.yard(1).and(x -> x.load(0)).refuses("load: the stack was emptied", StoneBeds.NO, x -> x.load(0));
        Scene.yard(1).and(x -> x.change(0, 6, 0, 1)).refuses("load: it was struck", StoneBeds.NO, x -> x.load(0));
    }

    /** "The top one of a STACK comes on the LORRY: its PLACE."; "the first one at PLACE 0, to 3" */
    private static void loadTheTopOne() {
        Scene scene = Scene.yard(4);
        for (int place = 0; place < 4; place++) {
            int top = 3 - place;
            scene = scene.takes("load: place " + place, place, x -> x.load(0));
            scene.due("load: the top one, " + top, 6, x -> x.told(top, 4));
            scene.due("load: they are on the lorry", place + 1, x -> x.count(10));
        }
        scene.due("load: the stack is empty", StoneBeds.NONE, x -> x.at(0, 0));
    }

    /** "and 4 PARTS"; "FULL: 4" */
    private static void loadFourParts() {
        Scene three = Scene.weights(1, 1, 1, 1, 1).and(x -> x.load(0), x -> x.load(1), x -> x.load(2));
        Scene four = three.takes("load: a fourth", 3, x -> x.load(3));
        four.refuses("load: a fifth", StoneBeds.FULL, x -> x.load(4));
        four.and(x -> x.go()).due("load: a fifth, on the next", 0, x -> x.load(4));
    }

    /** "bears WEIGHT 120 at most" */
    private static void loadWeight() {
        // With the light ones ahead neither AXLE is near its most.
        Scene three = Scene.weights(20, 20, 20, 61, 60).and(x -> x.load(0), x -> x.load(1), x -> x.load(2));
        three.refuses("load: 121", StoneBeds.NO, x -> x.load(3));
        three.takes("load: 120", 3, x -> x.load(4)).due("load: 120 is told", 120, x -> x.lorry(1));
        Scene two = Scene.weights(30, 40, 50, 51).and(x -> x.load(0), x -> x.load(1));
        two.refuses("load: 121 by the third", StoneBeds.NO, x -> x.load(3));
        two.due("load: 120 by the third", 2, x -> x.load(2));
    }

    /** "FRONT is the sum of WEIGHT times (8 - 2 PLACE)"; "(exactly: 720 ahead of dividing)" */
    private static void loadFrontAxle() {
        frontBears(0, Scene.weights(90, 91));
        frontBears(1, Scene.weights(40, 41, 60).and(x -> x.load(2)));
        frontBears(2, Scene.weights(3, 4, 60, 38).and(x -> x.load(2), x -> x.load(3)));
        frontBears(3, Scene.weights(1, 2, 60, 39, 1).and(x -> x.load(2), x -> x.load(3), x -> x.load(4)));
        Scene.weights(100).refuses("load: front of 800", StoneBeds.NO, x -> x.load(0));
        Scene.weights(1, 90).and(x -> x.load(1)).refuses("load: front of 726", StoneBeds.NO, x -> x.load(0));
    }

    /** PART 0 is the heaviest that the AXLE bears; PART 1 weighs one more. */
    private static void frontBears(int place, Scene scene) {
        scene.takes("load: front at its most, place " + place, place, x -> x.load(0))
            .due("lorry: front at its most, place " + place, 720, x -> x.lorry(2));
        scene.refuses("load: front beyond its most, place " + place, StoneBeds.NO, x -> x.load(1));
    }

    /** "REAR of WEIGHT times (2 PLACE and 1)"; "(exactly: 720 ahead of dividing)" */
    private static void loadRearAxle() {
        // Only the fourth, which counts seven times, can bring REAR to so much.
        Scene most = Scene.weights(100, 1, 3, 2).and(x -> x.load(1), x -> x.load(2), x -> x.load(3));
        most.due("lorry: rear of 20", 20, x -> x.lorry(3));
        most.takes("load: rear of 720", 3, x -> x.load(0)).due("lorry: rear of 720", 720, x -> x.lorry(3));
        Scene one = Scene.weights(100, 2, 3, 2).and(x -> x.load(1), x -> x.load(2), x -> x.load(3));
        one.due("lorry: rear of 21", 21, x -> x.lorry(3));
        one.refuses("load: rear of 721", StoneBeds.NO, x -> x.load(0));
        Scene two = Scene.weights(99, 98, 2, 1, 5).and(x -> x.load(2), x -> x.load(3), x -> x.load(4));
        two.refuses("load: rear of 723", StoneBeds.NO, x -> x.load(0));
        two.takes("load: rear of 716", 3, x -> x.load(1)).due("lorry: rear of 716", 716, x -> x.lorry(3));
    }

    /** "BAD; NO: the STACK is empty; FULL: 4; NO: the WEIGHT or an AXLE would be too great." */
    private static void loadOfSeveralTheFirst() {
        Scene four = Scene.weights(30, 30, 29, 30, 100).and(x -> x.load(0), x -> x.load(1), x -> x.load(2), x -> x.load(3));
        four.refuses("load: no stack, full", StoneBeds.BAD, x -> x.load(5));
        four.refuses("load: an empty stack, full", StoneBeds.NO, x -> x.load(0));
        four.refuses("load: full, and the weight", StoneBeds.FULL, x -> x.load(4));
    }

    /** "in THE YARD as soon as it is a top one" */
    private static void loadLaysBare() {
        Scene two = Scene.yard(3).and(x -> x.change(0, 6, 0, 10), x -> x.change(1, 6, 0, 10));
        Scene bare = two.takes("load: lays two bare", 0, x -> x.load(0));
        bare.due("load: the first is struck", 5, x -> x.told(1, 4));
        bare.due("load: the second is struck", 5, x -> x.told(0, 4));
        bare.due("load: the stack is empty", StoneBeds.NONE, x -> x.at(0, 0));
        Scene refused = Scene.weights(100, 10, 10, 10, 10, 1).and(x -> x.change(5, 6, 0, 1));
        refused.refuses("load: a refused one lays none bare", StoneBeds.NO, x -> x.load(0));
    }

    /** "NO: it is empty." */
    private static void goOfAnEmptyOne() {
        Scene.of().refuses("go: new", StoneBeds.NO, x -> x.go());
        Scene.yard(2).refuses("go: none is loaded", StoneBeds.NO, x -> x.go());
        Scene.everywhere().and(x -> x.go()).refuses("go: again", StoneBeds.NO, x -> x.go());
        Scene.weights(100).and(x -> x.load(0)).refuses("go: one was refused", StoneBeds.NO, x -> x.go());
    }

    /** "It goes with what is on it (AWAY)"; "how many PARTS are AWAY by it" */
    private static void goAway() {
        for (int n = 1; n <= 4; n++) {
            Scene gone = Scene.yard(4, 1).times(n, x -> x.load(0)).takes("go: with " + n, n, x -> x.go());
            gone.due("go: away, " + n, n, x -> x.count(8));
            gone.due("go: none is on the lorry", 0, x -> x.count(10));
            gone.due("go: the first is away", 4, x -> x.told(3, 4));
            gone.due("go: one trip", 1, x -> x.count(2));
            gone.due("go: the rest is in the yard", 5 - n, x -> x.count(7));
        }
    }

    private static void goNumbersTrips() {
        Scene trips = Scene.everywhere()
            .takes("go: of the second trip", 1, x -> x.go())
            .and(x -> x.load(2)).takes("go: of the third trip", 1, x -> x.go());
        trips.due("go: three trips", 3, x -> x.count(2));
        int[] parts = {7, 8, 6};
        for (int trip = 0; trip < 3; trip++) {
            int part = parts[trip];
            trips.due("go: trip of part " + part, trip, x -> x.told(part, 5));
        }
        trips.and(x -> x.go()).due("go: a refused one is no trip", 3, x -> x.count(2));
    }

    private static void goMakesRoom() {
        Scene gone = Scene.weights(90, 90, 20).and(x -> x.load(0), x -> x.go());
        for (int what = 0; what < 5; what++) {
            int asked = what;
            gone.due("go: the next lorry, " + what, what == 4 ? 1 : 0, x -> x.lorry(asked));
        }
        gone.due("go: the next lorry bears as much", 0, x -> x.load(1));
    }

    /** "0 PARTS, 1 WEIGHT, 2 FRONT times 9, 3 REAR times 9, 4 1 if it is RIGHT for NEED, else 0. BAD." */
    private static void lorryWhat() {
        Scene.everywhere().refusesEach("lorry: what", StoneBeds.BAD, Check.outside(0, 4), n -> x -> x.lorry(n));
        Scene.of().refusesEach("lorry: new, what", StoneBeds.BAD, Check.outside(0, 4), n -> x -> x.lorry(n));
    }

    private static void lorryTold() {
        int[][] due = {
            {0, 0, 0, 0, 1},
            {1, 30, 240, 30, 1},
            {2, 40, 240 + 60, 30 + 30, 1},
            {3, 60, 300 + 80, 60 + 100, 1},
            {4, 67, 380 + 14, 160 + 49, 1}};
        Scene scene = Scene.weights(10, 20, 30, 7);
        int[] stacks = {2, 0, 1, 3};
        for (int n = 0; n < due.length; n++) {
            for (int what = 0; what < 5; what++) {
                int asked = what;
                scene.due("lorry(" + what + ") of " + n, due[n][what], x -> x.lorry(asked));
            }
            int next = n < 4 ? stacks[n] : 4;
            scene = scene.and(x -> x.load(next));
        }
    }

    /** "RIGHT is a LORRY for NEED, if of PARTS on it .. NEEDS do not fall": of none, and of one. */
    private static void lorryOfNone() {
        Scene.of().due("lorry: none is right", 1, x -> x.lorry(4));
        Scene one = Scene.yard(1).and(x -> x.load(0));
        one.due("lorry: one is right", 1, x -> x.lorry(4));
        one.and(x -> x.need(0, 1000)).due("lorry: one of the greatest need is right", 1, x -> x.lorry(4));
        Scene.everywhere().due("lorry: one is right, whatever others need", 1, x -> x.lorry(4));
    }

    /** "last one first, NEEDS do not fall" */
    private static void right() {
        isRight(1, 1000, 5, 5, 4);
        isRight(1, 5, 5, 5, 5);
        isRight(1, 1000, 999, 1, 0);
        isRight(1, 0, 0, 0, 0);
        isRight(0, 0, 1, 999, 1000);
        isRight(1, 3, 2);
        isRight(0, 2, 3);
    }

    private static void rightNeedsByOne() {
        isRight(0, 4, 5, 5, 4);
        isRight(0, 5, 4, 5, 4);
        isRight(0, 5, 5, 4, 5);
        isRight(0, 0, 0, 0, 1);
        isRight(0, 999, 1000, 0, 0);
        isRight(0, 7, 6, 7);
    }

    private static void isRight(int due, int... needs) {
        int[] weights = new int[needs.length];
        StringBuilder name = new StringBuilder("lorry: right with");
        for (int i = 0; i < needs.length; i++) {
            weights[i] = 10;
            name.append(' ').append(needs[i]);
        }
        Scene scene = Scene.weights(weights);
        for (int i = 0; i < needs.length; i++) {
            int part = i;
            scene = scene.and(x -> x.need(part, needs[part]), x -> x.load(part));
        }
        scene.due(name.toString(), due, x -> x.lorry(4));
    }

    /** "Of the LORRY now" */
    private static void rightNow() {
        Scene two = Scene.weights(10, 10, 10).and(x -> x.load(0), x -> x.load(1));
        two.and(x -> x.need(1, 1)).due("lorry: a need told later", 0, x -> x.lorry(4));
        two.and(x -> x.need(1, 1), x -> x.need(0, 1)).due("lorry: both needs told later", 1, x -> x.lorry(4));
        two.and(x -> x.need(1, 1), x -> x.go()).due("lorry: the next one is right", 1, x -> x.lorry(4));
        two.and(x -> x.need(2, 9)).due("lorry: the need of one in the yard", 1, x -> x.lorry(4));
    }
}
