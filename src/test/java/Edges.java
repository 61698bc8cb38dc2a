import java.util.Arrays;

/**
 * Numbers that a range leaves out: one and two too small or too large, far off, and those that would fall into the
 * range if they wrapped around: cut to fewer bits, or multiplied by 3, 4 or 8 as the index of a row.
 */
final class Edges {
    private Edges() {
    }

    static int[] outside(int least, int greatest) {
        int[] candidates = new int[60];
        int size = 0;
        for (int edge : new int[] {least, greatest}) {
            for (int bits : new int[] {8, 16, 28, 29, 30, 31}) {
                candidates[size++] = edge + (1 << bits);
                candidates[size++] = edge - (1 << bits);
            }
            candidates[size++] = edge + 715827883;
            candidates[size++] = ~edge;
        }
        for (int off = 1; off <= 2; off++) {
            candidates[size++] = least - off;
            candidates[size++] = greatest + off;
        }
        candidates[size++] = Integer.MIN_VALUE;
        candidates[size++] = Integer.MAX_VALUE;
        return Arrays.stream(candidates, 0, size).filter(i -> i < least || i > greatest).distinct().toArray();
    }
}
