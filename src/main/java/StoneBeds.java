/**
 * Beds of stone parts, from the drawing to the lorry.
 *
 * <p>What each call must do is told by the numbered promises of ../shared/DOC.md; the words in
 * capitals here are the words of that document.
 */
public final class StoneBeds {
    public static final int BAD = -1, NO = -2, FULL = -3, NONE = -4;

    private static final int BAD_WARMTH = -100;

    private static final int MOST_PARTS = 40;
    private static final int MOST_LENGTH = 200;
    private static final int PLANS = 8;
    private static final int MOST_WEIGHT = 100;
    private static final int MOST_NEED = 1000;

    private static final int BEDS = 3;
    private static final int BED_LENGTH = 300;
    private static final int JOINT = 4;
    private static final int MOST_PACKED = 12;
    private static final int CAST_BITS = 32;

    private static final int LEAST_WARMTH = -20;
    private static final int MOST_WARMTH = 60;
    private static final int FIRST_WARMTH = 15;
    private static final int MOST_HOURS = 200;
    private static final int LAST_HOUR = 100000;
    private static final int RIPE = 500;
    private static final int HOURS_TO_LET_GO = 12;

    private static final int STACKS = 5;
    private static final int STACK_HEIGHT = 4;
    private static final int MOST_ORDERED = 6;
    private static final int MOST_DUG = 10;
    private static final int ORDER_BITS = 6;
    private static final int ORDER_MASK = 63;

    private static final int LORRY_PLACES = 4;
    private static final int LORRY_WEIGHT = 120;
    private static final int AXLE_NINEFOLD = 720;

    /** Where a PART is, by the numbers that told and count use. */
    private static final int DRAWN = 0, CAST = 1, LOOSE = 2, IN_YARD = 3, AWAY = 4, STRUCK = 5, ON_LORRY = 6;

    /** What change answers; a new PART's number is added to the last one. */
    private static final int GIVEN = 0, CUT = 1, AS_IT_WAS = 2, NEW_PART = 100;

    private final Part[] parts = new Part[MOST_PARTS];
    private final Bed[] beds = new Bed[BEDS];
    private final Pile[] stacks = new Pile[STACKS];
    private final Lorry lorry = new Lorry();
    private final Packer packer = new Packer();
    private final Digger digger = new Digger();
    private int partCount;
    private int castCount;
    private int tripCount;
    private int hour;
    private int warmth;

    public StoneBeds() {
        for (int i = 0; i < parts.length; i++) {
            parts[i] = new Part();
        }
        for (int i = 0; i < beds.length; i++) {
            beds[i] = new Bed();
        }
        for (int i = 0; i < stacks.length; i++) {
            stacks[i] = new Pile();
        }
        warmth = FIRST_WARMTH;
    }

    public int part(int length, int plan, int weight) {
        if (!areMeasures(length, plan, weight)) {
            return BAD;
        }
        if (partCount >= MOST_PARTS) {
            return FULL;
        }
        return draw(length, plan, weight, 0);
    }

    public int need(int part, int n) {
        Part told = partOf(part);
        if (told == null || n < 0 || n > MOST_NEED) {
            return BAD;
        }
        int before = told.need;
        told.need = n;
        return before;
    }

    public int casts(int from, int to, int what) {
        if (partOf(from) == null || partOf(to) == null || from > to || what < 0 || what > 1) {
            return BAD;
        }
        int drawn = 0;
        for (int i = from; i <= to; i++) {
            if (isDrawn(partOf(i))) {
                drawn++;
            }
        }
        if (drawn > MOST_PACKED) {
            return BAD;
        }
        int casts = 0;
        for (int plan = 0; plan < PLANS; plan++) {
            givePacker(from, to, plan);
            casts += what == 0 ? packer.fewestCasts() : packer.plainCasts();
        }
        return casts;
    }

    public int cast(int bed, int from, int bits) {
        Bed on = bedOf(bed);
        if (on == null || partOf(from) == null || bits == 0 || !areParts(from, bits)) {
            return BAD;
        }
        if (on.parts > 0 || !areDrawnAndFit(from, bits)) {
            return NO;
        }
        for (int i = 0; i < CAST_BITS; i++) {
            Part told = partOf(from + i);
            if (told != null && hasBit(bits, i)) {
                told.isNow(CAST, bed);
                on.take(told.length, hour);
            }
        }
        castCount++;
        return on.parts;
    }

    public int warmth(int w) {
        if (w < LEAST_WARMTH || w > MOST_WARMTH) {
            return BAD_WARMTH;
        }
        int before = warmth;
        warmth = w;
        return before;
    }

    public int hours(int n) {
        if (n < 1 || n > MOST_HOURS) {
            return BAD;
        }
        if (hour + n > LAST_HOUR) {
            return FULL;
        }
        hour += n;
        int growth = Math.max(0, warmth + 10) * n;
        for (int i = 0; i < BEDS; i++) {
            Bed bed = bedOf(i);
            if (bed != null && bed.parts > 0) {
                bed.ripeness += growth;
            }
        }
        return hour;
    }

    public int letGo(int bed) {
        Bed from = bedOf(bed);
        if (from == null) {
            return BAD;
        }
        if (from.parts == 0 || from.ripeness < RIPE || hour - from.castHour < HOURS_TO_LET_GO) {
            return NO;
        }
        int loose = 0;
        for (int i = 0; i < partCount; i++) {
            Part told = partOf(i);
            if (told == null || told.where != CAST || told.number != bed) {
                continue;
            }
            told.camber = camberOf(told, from.ripeness);
            if (told.toBeStruck) {
                told.isStruck();
            } else {
                told.isNow(LOOSE, NONE);
                loose++;
            }
        }
        from.clear();
        return loose;
    }

    public int stack(int part, int stack) {
        Part told = partOf(part);
        Pile on = stackOf(stack);
        if (told == null || on == null) {
            return BAD;
        }
        if (told.where != LOOSE) {
            return NO;
        }
        if (!on.hasRoom()) {
            return FULL;
        }
        on.put(part);
        told.isNow(IN_YARD, stack);
        return on.height;
    }

    public int move(int from, int to) {
        Pile source = stackOf(from);
        Pile target = stackOf(to);
        if (source == null || target == null || from == to) {
            return BAD;
        }
        Part told = partOf(source.top());
        if (told == null) {
            return NO;
        }
        if (!target.hasRoom()) {
            return FULL;
        }
        int part = source.takeOff();
        target.put(part);
        told.isNow(IN_YARD, to);
        strikeTops(source);
        return part;
    }

    public int diggings(int n, long order) {
        if (n < 0 || n > MOST_ORDERED || order >>> (n * ORDER_BITS) != 0) {
            return BAD;
        }
        digger.clear();
        for (int i = 0; i < n; i++) {
            int part = ordered(order, i);
            if (partOf(part) == null || !digger.wants(part)) {
                return BAD;
            }
        }
        if (countWhere(IN_YARD) > MOST_DUG) {
            return NO;
        }
        for (int i = 0; i < n; i++) {
            Part told = partOf(ordered(order, i));
            if (told == null || told.where != IN_YARD) {
                return NO;
            }
        }
        for (int i = 0; i < STACKS; i++) {
            digger.copyStack(i, stackOf(i));
        }
        return digger.fewestMoves();
    }

    public int load(int stack) {
        Pile from = stackOf(stack);
        if (from == null) {
            return BAD;
        }
        Part told = partOf(from.top());
        if (told == null) {
            return NO;
        }
        if (!lorry.hasPlace()) {
            return FULL;
        }
        if (!lorry.bears(told.weight)) {
            return NO;
        }
        int place = lorry.take(from.takeOff(), told.weight);
        told.isNow(ON_LORRY, NONE);
        strikeTops(from);
        return place;
    }

    public int go() {
        int gone = lorry.parts;
        if (gone == 0) {
            return NO;
        }
        for (int place = 0; place < gone; place++) {
            Part told = partOf(lorry.partOn(place));
            if (told != null) {
                told.isNow(AWAY, tripCount);
            }
        }
        tripCount++;
        lorry.clear();
        return gone;
    }

    public int lorry(int what) {
        switch (what) {
            case 0: return lorry.parts;
            case 1: return lorry.weight;
            case 2: return lorry.front;
            case 3: return lorry.rear;
            case 4: return isRight() ? 1 : 0;
            default: return BAD;
        }
    }

    public int change(int part, int length, int plan, int weight) {
        Part old = partOf(part);
        if (old == null || !areMeasures(length, plan, weight)) {
            return BAD;
        }
        if (old.where == AWAY || old.where == ON_LORRY || old.where == STRUCK || old.toBeStruck) {
            return NO;
        }
        if (old.length == length && old.plan == plan && old.weight == weight) {
            return AS_IT_WAS;
        }
        if (old.where == DRAWN) {
            old.measure(length, plan, weight);
            return GIVEN;
        }
        if (old.plan == plan && length < old.length && weight <= old.weight) {
            if (old.where != LOOSE) {
                return NO;
            }
            old.measure(length, plan, weight);
            return CUT;
        }
        if (partCount >= MOST_PARTS) {
            return FULL;
        }
        int made = draw(length, plan, weight, old.need);
        strikeWhereItIs(old);
        return NEW_PART + made;
    }

    public int told(int part, int what) {
        Part told = partOf(part);
        if (told == null) {
            return BAD;
        }
        switch (what) {
            case 0: return told.length;
            case 1: return told.plan;
            case 2: return told.weight;
            case 3: return told.need;
            case 4: return told.where;
            case 5: return told.number;
            case 6: return told.camber;
            case 7: return told.toBeStruck ? 1 : 0;
            default: return BAD;
        }
    }

    public int at(int stack, int i) {
        Pile told = stackOf(stack);
        // Counting goes from 0 up without a bound, so only a number below 0 counts no place.
        return told == null || i < 0 ? BAD : told.from(i);
    }

    public int bed(int bed, int what) {
        Bed told = bedOf(bed);
        if (told == null) {
            return BAD;
        }
        switch (what) {
            case 0: return told.parts;
            case 1: return told.length;
            case 2: return told.ripeness;
            case 3: return told.parts == 0 ? 0 : hour - told.castHour;
            default: return BAD;
        }
    }

    public int count(int what) {
        switch (what) {
            case 0: return partCount;
            case 1: return hour;
            case 2: return tripCount;
            case 3: return castCount;
            default: return what >= 4 && what <= 10 ? countWhere(what - 4) : BAD;
        }
    }

    private Part partOf(int number) {
        return number < 0 || number >= partCount || number >= parts.length ? null : parts[number];
    }

    private Bed bedOf(int number) {
        return number < 0 || number >= beds.length ? null : beds[number];
    }

    private Pile stackOf(int number) {
        return number < 0 || number >= stacks.length ? null : stacks[number];
    }

    private static boolean areMeasures(int length, int plan, int weight) {
        return length >= 1 && length <= MOST_LENGTH
            && plan >= 0 && plan < PLANS
            && weight >= 1 && weight <= MOST_WEIGHT;
    }

    private static boolean hasBit(int bits, int i) {
        return (bits >>> i & 1) != 0;
    }

    private static int ordered(long order, int i) {
        return (int) (order >>> (i * ORDER_BITS)) & ORDER_MASK;
    }

    private static boolean isDrawn(Part part) {
        return part != null && part.where == DRAWN;
    }

    private static int camberOf(Part part, int ripeness) {
        int divisor = ripeness + 1000;
        return divisor <= 0 ? 0 : part.length * part.length * (part.plan + 1) / divisor;
    }

    /** Callers have looked for room. */
    private int draw(int length, int plan, int weight, int need) {
        int number = partCount;
        partCount++;
        Part made = partOf(number);
        if (made != null) {
            made.measure(length, plan, weight);
            made.need = need;
        }
        return number;
    }

    private int countWhere(int where) {
        int counted = 0;
        for (int i = 0; i < partCount; i++) {
            Part part = partOf(i);
            if (part != null && part.where == where) {
                counted++;
            }
        }
        return counted;
    }

    private void givePacker(int from, int to, int plan) {
        packer.clear();
        for (int i = from; i <= to; i++) {
            Part part = partOf(i);
            if (part != null && part.where == DRAWN && part.plan == plan) {
                packer.add(part.length);
            }
        }
    }

    private boolean areParts(int from, int bits) {
        for (int i = 0; i < CAST_BITS; i++) {
            if (hasBit(bits, i) && partOf(from + i) == null) {
                return false;
            }
        }
        return true;
    }

    private boolean areDrawnAndFit(int from, int bits) {
        int plan = NONE;
        // The first one has no JOINT ahead of it.
        int length = -JOINT;
        for (int i = 0; i < CAST_BITS; i++) {
            if (!hasBit(bits, i)) {
                continue;
            }
            Part part = partOf(from + i);
            if (part == null || part.where != DRAWN || plan != NONE && part.plan != plan) {
                return false;
            }
            plan = part.plan;
            length += JOINT + part.length;
        }
        return length <= BED_LENGTH;
    }

    private boolean isRight() {
        for (int place = 1; place < lorry.parts; place++) {
            Part ahead = partOf(lorry.partOn(place - 1));
            Part behind = partOf(lorry.partOn(place));
            // The one behind is unloaded before the one ahead.
            if (ahead != null && behind != null && behind.need > ahead.need) {
                return false;
            }
        }
        return true;
    }

    private void strikeWhereItIs(Part part) {
        if (part.where == LOOSE) {
            part.isStruck();
            return;
        }
        part.toBeStruck = true;
        if (part.where == IN_YARD) {
            strikeTops(stackOf(part.number));
        }
    }

    /** One that goes may lay bare another that is to go, so the tops are asked again and again. */
    private void strikeTops(Pile stack) {
        for (int i = 0; stack != null && i < STACK_HEIGHT; i++) {
            Part top = partOf(stack.top());
            if (top == null || !top.toBeStruck) {
                return;
            }
            stack.takeOff();
            top.isStruck();
        }
    }

    private static final class Part {
        private int length;
        private int plan;
        private int weight;
        private int need;
        private int where = DRAWN;
        /** Its BED's, STACK's or TRIP's. */
        private int number = NONE;
        private int camber;
        private boolean toBeStruck;

        void measure(int newLength, int newPlan, int newWeight) {
            length = newLength;
            plan = newPlan;
            weight = newWeight;
        }

        void isNow(int newWhere, int newNumber) {
            where = newWhere;
            number = newNumber;
        }

        void isStruck() {
            isNow(STRUCK, NONE);
            toBeStruck = false;
        }
    }

    private static final class Bed {
        private int parts;
        /** LENGTHS and JOINTS together. */
        private int length;
        private int ripeness;
        private int castHour;

        void take(int partLength, int now) {
            length += parts == 0 ? partLength : JOINT + partLength;
            parts++;
            castHour = now;
        }

        void clear() {
            parts = 0;
            length = 0;
            ripeness = 0;
        }
    }

    /** Numbers that lie on one another, STACK_HEIGHT at most. */
    private static final class Pile {
        private final int[] held = new int[STACK_HEIGHT];
        private int height;

        boolean hasRoom() {
            return height < held.length;
        }

        void put(int number) {
            if (height >= 0 && height < held.length) {
                held[height] = number;
                height++;
            }
        }

        int from(int i) {
            return i < 0 || i >= height || i >= held.length ? NONE : held[i];
        }

        int top() {
            return from(height - 1);
        }

        boolean holds(int number) {
            for (int i = 0; i < height; i++) {
                if (from(i) == number) {
                    return true;
                }
            }
            return false;
        }

        int takeOff() {
            int taken = top();
            if (height > 0) {
                height--;
            }
            return taken;
        }

        void clear() {
            height = 0;
        }
    }

    private static final class Lorry {
        private final int[] held = new int[LORRY_PLACES];
        private int parts;
        private int weight;
        /** Both AXLES nine times over, so that nothing is divided. */
        private int front;
        private int rear;

        boolean hasPlace() {
            return parts < held.length;
        }

        boolean bears(int more) {
            return weight + more <= LORRY_WEIGHT
                && front + more * frontShare() <= AXLE_NINEFOLD
                && rear + more * rearShare() <= AXLE_NINEFOLD;
        }

        /** Answers the PLACE. */
        int take(int part, int more) {
            int place = parts;
            if (place < 0 || place >= held.length) {
                return NONE;
            }
            front += more * frontShare();
            rear += more * rearShare();
            weight += more;
            held[place] = part;
            parts++;
            return place;
        }

        int partOn(int place) {
            return place < 0 || place >= parts || place >= held.length ? NONE : held[place];
        }

        void clear() {
            parts = 0;
            weight = 0;
            front = 0;
            rear = 0;
        }

        private int frontShare() {
            return 8 - 2 * parts;
        }

        private int rearShare() {
            return 2 * parts + 1;
        }
    }

    /**
     * Lays PARTS of one PLAN out on casts. Each PART is reckoned with a JOINT behind it, and the
     * BED as one JOINT longer, so that sizes only have to be added.
     */
    private static final class Packer {
        private static final int ROOM = BED_LENGTH + JOINT;

        /** The greatest first. */
        private final int[] sizes = new int[MOST_PACKED];
        private final int[] filled = new int[MOST_PACKED];
        private int held;
        private int sum;

        void clear() {
            held = 0;
            sum = 0;
        }

        void add(int length) {
            int place = held;
            if (place < 0 || place >= sizes.length) {
                return;
            }
            int size = length + JOINT;
            for (; place > 0 && sizes[place - 1] < size; place--) {
                sizes[place] = sizes[place - 1];
            }
            sizes[place] = size;
            held++;
            sum += size;
        }

        int plainCasts() {
            int casts = 0;
            for (int item = 0; item < held; item++) {
                int size = sizeOf(item);
                int cast = 0;
                while (cast < casts && roomOn(cast) < size) {
                    cast++;
                }
                if (cast == casts) {
                    empty(cast);
                    casts++;
                }
                fill(cast, size);
            }
            return casts;
        }

        int fewestCasts() {
            int most = plainCasts();
            for (int casts = (sum + ROOM - 1) / ROOM; casts < most; casts++) {
                for (int cast = 0; cast < casts; cast++) {
                    empty(cast);
                }
                if (packs(0, casts, casts * ROOM - sum)) {
                    return casts;
                }
            }
            return most;
        }

        private int sizeOf(int item) {
            return item < 0 || item >= held || item >= sizes.length ? 0 : sizes[item];
        }

        private int roomOn(int cast) {
            return cast < 0 || cast >= filled.length ? 0 : ROOM - filled[cast];
        }

        private void empty(int cast) {
            if (cast >= 0 && cast < filled.length) {
                filled[cast] = 0;
            }
        }

        /** With less than nothing what was laid there is taken off again. */
        private void fill(int cast, int more) {
            if (cast >= 0 && cast < filled.length) {
                filled[cast] += more;
            }
        }

        /** Tells whether the items from this one on go on the casts, with this much room to be lost. */
        private boolean packs(int item, int casts, int spare) {
            if (item >= held) {
                return true;
            }
            int size = sizeOf(item);
            int least = sizeOf(held - 1);
            for (int cast = 0; cast < casts; cast++) {
                int room = roomOn(cast);
                if (room < size) {
                    continue;
                }
                if (packsOn(cast, item, casts, spare)) {
                    return true;
                }
                // Another cast can't do better where this one is empty as all behind it are, or
                // where this item, the greatest left, fills what one item alone can fill.
                if (room == ROOM || room == size || room < 2 * least) {
                    return false;
                }
            }
            return false;
        }

        private boolean packsOn(int cast, int item, int casts, int spare) {
            int size = sizeOf(item);
            int left = roomOn(cast) - size;
            int lost = left < sizeOf(held - 1) ? left : 0;
            if (lost > spare) {
                return false;
            }
            fill(cast, size);
            boolean packed = packs(item + 1, casts, spare - lost);
            fill(cast, -size);
            return packed;
        }
    }

    /**
     * Looks for the fewest moves for an order on STACKS of its own. A PART stands there by its
     * turn in the order, all that aren't wanted by one turn behind the last.
     */
    private static final class Digger {
        /** Each of six has three above it at most. */
        private static final int MOST_MOVES = MOST_ORDERED * (STACK_HEIGHT - 1);

        private final Pile[] piles = new Pile[STACKS];
        private final int[] turns = new int[MOST_PARTS];
        private final int[] takenFrom = new int[MOST_ORDERED];
        private int wanted;

        Digger() {
            for (int i = 0; i < piles.length; i++) {
                piles[i] = new Pile();
            }
        }

        void clear() {
            for (int i = 0; i < turns.length; i++) {
                turns[i] = MOST_ORDERED;
            }
            wanted = 0;
        }

        /** Answers false if it is wanted already. */
        boolean wants(int part) {
            if (part < 0 || part >= turns.length || turns[part] < MOST_ORDERED) {
                return false;
            }
            turns[part] = wanted;
            wanted++;
            return true;
        }

        void copyStack(int number, Pile stack) {
            Pile pile = pileOf(number);
            if (pile == null || stack == null) {
                return;
            }
            pile.clear();
            for (int i = 0; i < stack.height; i++) {
                int part = stack.from(i);
                pile.put(part < 0 || part >= turns.length ? MOST_ORDERED : turns[part]);
            }
        }

        int fewestMoves() {
            int moves = mustMove();
            while (moves < MOST_MOVES && !reaches(0, moves)) {
                moves++;
            }
            return moves;
        }

        private Pile pileOf(int number) {
            return number < 0 || number >= piles.length ? null : piles[number];
        }

        /** Tells whether all from this turn on can be taken with so many moves; if not, all is as before. */
        private boolean reaches(int turn, int moves) {
            int next = turn;
            while (next < wanted && takes(next)) {
                next++;
            }
            if (next >= wanted || moves > 0 && mustMove() <= moves && digs(next, moves)) {
                return true;
            }
            for (int i = next - 1; i >= turn; i--) {
                putBack(i);
            }
            return false;
        }

        /** Takes it off if it is a top one, and tells whether it was. */
        private boolean takes(int turn) {
            int source = pileWith(turn);
            Pile pile = pileOf(source);
            if (pile == null || pile.top() != turn || turn < 0 || turn >= takenFrom.length) {
                return false;
            }
            takenFrom[turn] = source;
            pile.takeOff();
            return true;
        }

        private void putBack(int turn) {
            Pile pile = turn < 0 || turn >= takenFrom.length ? null : pileOf(takenFrom[turn]);
            if (pile != null) {
                pile.put(turn);
            }
        }

        private boolean digs(int next, int moves) {
            Pile from = pileOf(pileWith(next));
            if (from == null) {
                return false;
            }
            int moved = from.takeOff();
            boolean emptyTried = false;
            for (int i = 0; i < STACKS; i++) {
                Pile to = pileOf(i);
                if (to == null || to == from || !to.hasRoom() || to.height == 0 && emptyTried) {
                    continue;
                }
                emptyTried |= to.height == 0;
                to.put(moved);
                if (reaches(next, moves - 1)) {
                    return true;
                }
                to.takeOff();
            }
            from.put(moved);
            return false;
        }

        private int pileWith(int turn) {
            for (int i = 0; i < STACKS; i++) {
                Pile pile = pileOf(i);
                if (pile != null && pile.holds(turn)) {
                    return i;
                }
            }
            return NONE;
        }

        private int mustMove() {
            int blocking = 0;
            for (int i = 0; i < STACKS; i++) {
                blocking += blockingOn(pileOf(i));
            }
            return blocking;
        }

        /** Each that lies above one with an earlier turn must be moved at least once. */
        private static int blockingOn(Pile pile) {
            int blocking = 0;
            int earliest = MOST_ORDERED;
            for (int i = 0; pile != null && i < pile.height; i++) {
                int turn = pile.from(i);
                if (turn > earliest) {
                    blocking++;
                } else {
                    earliest = turn;
                }
            }
            return blocking;
        }
    }
}
