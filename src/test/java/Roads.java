import java.util.NoSuchElementException;

/** What the tests share: exceptions by short names, roads made by a few calls, texts, and ice reckoned again. */
class Roads {
    static final Class<?> ARGUMENT = IllegalArgumentException.class;
    static final Class<?> INDEX = IndexOutOfBoundsException.class;
    static final Class<?> STATE = IllegalStateException.class;
    static final Class<?> NONE = NoSuchElementException.class;
    static final Class<?> REFUSED = UnsupportedOperationException.class;
    static final int[] NO_MILES = {-1, 12, Integer.MIN_VALUE, Integer.MAX_VALUE};

    /** A convoy 0 with the gap, and flat trucks of the weights. */
    static IceConvoys withConvoy(int gap, int... weights) {
        IceConvoys x = new IceConvoys();
        addConvoy(x, gap, weights);
        return x;
    }

    static void addConvoy(IceConvoys x, int gap, int... weights) {
        int convoy = x.convoy(gap);
        for (int weight : weights) {
            x.join(convoy, 0, x.truck(0, weight, 2, 0));
        }
    }

    static void drillAll(IceConvoys x) {
        for (int mile = 0; mile < 12; mile++) {
            x.drill(mile);
        }
    }

    static void roll(IceConvoys x, int convoy, int times) {
        for (int k = 0; k < times; k++) {
            x.roll(convoy);
        }
    }

    static int read(IceConvoys x, String text) {
        type(x, text);
        return x.read();
    }

    static void type(IceConvoys x, String text) {
        for (int k = 0; k < text.length(); k++) {
            x.append(text.charAt(k));
        }
    }

    static int bits(float value) {
        return Float.floatToIntBits(value);
    }

    static float grown(float ice, int cold, int days) {
        float grown = ice;
        for (int day = 0; day < days; day++) {
            grown = grown + ((float) cold * 1.5f / (grown + 10.0f));
        }
        return grown;
    }

    static float grownAtMost(float ice, int cold, int days) {
        float grown = ice;
        for (int day = 0; day < days; day++) {
            grown = Math.min(200.0f, grown(grown, cold, 1));
        }
        return grown;
    }
}
