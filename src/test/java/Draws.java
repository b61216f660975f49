import java.util.function.IntPredicate;

/** DRAWS as the document tells them, in longs, so that wrapping and the lost sign are done by hand. */
final class Draws {
    private static final long ALL = 1L << 32;
    private long state;

    Draws(int state) {
        this.state = Math.floorMod((long) state, ALL);
    }

    int of(int m) {
        state = Math.floorMod(1664525L * state + 1013904223L, ALL);
        return (int) (state / 256 % m);
    }

    int state() {
        return (int) state;
    }

    /** The first STATE that fits. */
    static int stateThat(IntPredicate fits) {
        for (int v = 0; v < 10000000; v++) {
            if (fits.test(v)) {
                return v;
            }
        }
        throw new IllegalStateException("no STATE fits");
    }

    /** A STATE by which, SUNSET told, the first hand-over of those with DROP 1000 falls on this SPOT. */
    static int stateForSpot(int spot) {
        return stateThat(v -> {
            Draws d = new Draws(v);
            d.of(61);
            d.of(1000);
            return d.of(9) == spot;
        });
    }

    /** A STATE by which the first DAY has this SUNSET. */
    static int stateForSunset(int sunset) {
        return stateThat(v -> new Draws(v).of(61) + 120 == sunset);
    }
}
