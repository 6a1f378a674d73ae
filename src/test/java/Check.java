/** Counts answers that are not due, and makes what many tests start from. */
final class Check {
    private static int asked = 0;
    private static int wrong = 0;

    private Check() {
    }

    static void due(String call, long got, long want) {
        asked++;
        if (got != want) {
            wrong++;
            System.out.println(call + " answered " + got + ", due is " + want);
        }
    }

    static void holds(String what, boolean held) {
        due(what, held ? 1 : 0, 1);
    }

    static void end(String test) {
        System.out.println(test + ": " + asked + " answers, " + wrong + " not as due");
        if (wrong != 0) {
            System.exit(1);
        }
    }

    static void draw(StoneBeds x, int n, int length, int weight) {
        for (int i = 0; i < n; i++) {
            x.part(length, 0, weight);
        }
    }

    /** PARTS 0 .. n - 1, all LOOSE. */
    static StoneBeds loose(int n, int length, int weight) {
        StoneBeds x = new StoneBeds();
        draw(x, n, length, weight);
        x.cast(0, 0, n == 32 ? -1 : (1 << n) - 1);
        x.hours(20);
        x.letGo(0);
        return x;
    }

    /** As many PARTS as the rows hold, row s on STACK s, numbered from row to row. */
    static StoneBeds yard(int... heights) {
        int n = 0;
        for (int h : heights) {
            n += h;
        }
        StoneBeds x = loose(n, 5, 10);
        int part = 0;
        for (int s = 0; s < heights.length; s++) {
            for (int i = 0; i < heights[s]; i++) {
                x.stack(part++, s);
            }
        }
        return x;
    }

    static long order(int... parts) {
        long order = 0;
        for (int i = 0; i < parts.length; i++) {
            order |= (long) parts[i] << (6 * i);
        }
        return order;
    }

    /** All that can be told of an object, as one text: what a refused call must leave as it was. */
    static String all(StoneBeds x) {
        StringBuilder text = new StringBuilder();
        for (int what = 0; what <= 10; what++) {
            text.append(x.count(what)).append(' ');
        }
        for (int part = 0; part < x.count(0); part++) {
            text.append("| ");
            for (int what = 0; what <= 7; what++) {
                text.append(x.told(part, what)).append(' ');
            }
        }
        for (int stack = 0; stack < 5; stack++) {
            text.append("s ");
            for (int i = 0; i < 4; i++) {
                text.append(x.at(stack, i)).append(' ');
            }
        }
        for (int bed = 0; bed < 3; bed++) {
            text.append("b ");
            for (int what = 0; what <= 3; what++) {
                text.append(x.bed(bed, what)).append(' ');
            }
        }
        text.append("l ");
        for (int what = 0; what <= 4; what++) {
            text.append(x.lorry(what)).append(' ');
        }
        return text.toString();
    }
}
