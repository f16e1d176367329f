import java.util.Arrays;

/** Numbers that are not as told: one beyond each end, the farthest ones, and such as would wrap to a right one. */
final class Outside {
    private Outside() {
    }

    static int[] of(int low, int high) {
        int[] all = {low - 1, high + 1, Integer.MIN_VALUE, Integer.MAX_VALUE, Integer.MIN_VALUE + 1, Integer.MAX_VALUE - 1,
            low + 256, high - 256, low + 65536, high - 65536, low + Integer.MIN_VALUE, high + Integer.MIN_VALUE, -100, 1000};
        return Arrays.stream(all).filter(n -> n < low || n > high).toArray();
    }

    /** What numbers no TREE: of so many. */
    static int[] ofTrees(int trees) {
        return of(0, trees - 1);
    }
}
