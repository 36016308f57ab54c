/** The numbers at which a bound shows: at it, beside it, and the least and the greatest int. */
final class Edges {
    private Edges() {
    }

    /** Out of low .. high; if there is nothing in it (high is low - 1), low itself is out of it. */
    static int[] outside(int low, int high) {
        return new int[] {Integer.MIN_VALUE, low - 1, high + 1, Integer.MAX_VALUE};
    }

    /** In low .. high: the bounds and what lies beside them. */
    static int[] inside(int low, int high) {
        if (high < low) {
            return new int[0];
        }
        return new int[] {low, Math.min(low + 1, high), Math.max(high - 1, low), high};
    }
}
