/** Numbers at and beyond bounds. */
final class Edge {
    private Edge() {
    }

    /** Below the least and above the most: next to them, and as far as can be. */
    static int[] outside(int least, int most) {
        return new int[] {Integer.MIN_VALUE, Integer.MIN_VALUE + 1, least - 256, least - 1, most + 1, most + 256,
            Integer.MAX_VALUE - 1, Integer.MAX_VALUE};
    }

    static OneEye threes(int count) {
        OneEye x = new OneEye();
        for (int t = 0; t < count; t++) {
            x.three(1, 0);
        }
        return x;
    }
}
