import java.util.List;
import java.util.Set;
import java.util.TreeSet;

/** Numbers at the ends of what a call takes. */
final class Edges {
    private Edges() {
    }

    /**
     * Numbers outside low..high: beside both ends, at the ends of the ints, and a
     * power of two away, where a lost bit or a wrapped product would land inside.
     */
    static int[] outside(int low, int high) {
        Set<Integer> numbers = new TreeSet<>(List.of(Integer.MIN_VALUE, Integer.MIN_VALUE + 1,
                Integer.MAX_VALUE - 1, Integer.MAX_VALUE));
        for (int power = 1; power != 0; power <<= 1) {
            numbers.addAll(List.of(low - power, low + power, high - power, high + power));
        }
        numbers.removeIf(number -> number >= low && number <= high);
        return numbers.stream().mapToInt(Integer::intValue).toArray();
    }

    static int[] below(int low) {
        return outside(low, Integer.MAX_VALUE);
    }

    static int[] above(int high) {
        return outside(Integer.MIN_VALUE, high);
    }

    /** No fact, every fact, and each fact alone or alone missing. */
    static long[] states() {
        long[] states = new long[130];
        states[0] = 0L;
        states[1] = -1L;
        for (int fact = 0; fact < 64; fact++) {
            states[2 + fact] = 1L << fact;
            states[66 + fact] = ~(1L << fact);
        }
        return states;
    }
}
