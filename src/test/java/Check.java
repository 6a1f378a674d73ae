import java.util.Arrays;
import java.util.stream.IntStream;

/** Counts answers that are not due. */
final class Check {
    private static int asked = 0;
    private static int wrong = 0;

    private Check() {
    }

    static void due(String call, long got, long want) {
        asked++;
        if (got != want) {
            wrong++;
            System.out.println(call + " answered " + got + ", due is " + want);
        }
    }

    static void holds(String what, boolean held) {
        due(what, held ? 1 : 0, 1);
    }

    static void end(String test) {
        System.out.println(test + ": " + asked + " answers, " + wrong + " not as due");
        if (wrong != 0) {
            System.exit(1);
        }
    }

    static long order(int... parts) {
        long order = 0;
        for (int i = 0; i < parts.length; i++) {
            order |= (long) parts[i] << (6 * i);
        }
        return order;
    }

    /**
     * Numbers outside of those from least to most: the first beyond on both sides, the ends of int,
     * and such as would be inside if they were cut to a byte or a short, or if their sign were.
     */
    static int[] outside(int least, int most) {
        return IntStream.of(least - 1, most + 1, Integer.MIN_VALUE, Integer.MAX_VALUE,
                least + 256, most + 256, least + 65536, most + 65536, least - 65536,
                Integer.MIN_VALUE + least, Integer.MIN_VALUE + most, -most)
            .filter(n -> n < least || n > most).distinct().toArray();
    }

    static int[] join(int[] some, int... more) {
        int[] all = Arrays.copyOf(some, some.length + more.length);
        System.arraycopy(more, 0, all, some.length, more.length);
        return all;
    }
}
