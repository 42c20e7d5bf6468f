import java.lang.reflect.Method;
import java.util.Random;

/** The bits that the class reckons, against the library's, for values that no run of calls may come to. */
public final class BitsTest {
    public static void main(String[] args) throws ReflectiveOperationException {
        Method floatBits = IceConvoys.class.getDeclaredMethod("floatBits", float.class);
        Method doubleBits = IceConvoys.class.getDeclaredMethod("doubleBits", double.class);
        floatBits.setAccessible(true);
        doubleBits.setAccessible(true);
        Checks checks = new Checks();
        float[] floats = {0.0f, Float.MIN_VALUE, Math.nextDown(Float.MIN_NORMAL), Float.MIN_NORMAL, Math.nextDown(1.0f), 1.0f,
            Math.nextUp(1.0f), Math.nextDown(2.0f), 2.0f, 4.0f, 200.0f, Float.MAX_VALUE};
        for (float value : floats) {
            checks.due("bits of " + value, Float.floatToIntBits(value), () -> invoke(floatBits, value));
        }
        double[] doubles = {0.0, Double.MIN_VALUE, Math.nextDown(Double.MIN_NORMAL), Double.MIN_NORMAL, Math.nextDown(1.0), 1.0,
            Math.nextUp(1.0), Math.nextDown(2.0), 2.0, 4.0, 200.0, Double.MAX_VALUE};
        for (double value : doubles) {
            checks.due("bits of " + value, Double.doubleToLongBits(value), () -> invoke(doubleBits, value));
        }
        Random random = new Random(1);
        for (int k = 0; k < 50_000; k++) {
            float value = Float.intBitsToFloat(random.nextInt(Float.floatToIntBits(Float.MAX_VALUE)));
            checks.due("bits of " + value, Float.floatToIntBits(value), () -> invoke(floatBits, value));
            double mean = random.nextDouble() * 200.0;
            checks.due("bits of " + mean, Double.doubleToLongBits(mean), () -> invoke(doubleBits, mean));
        }
        checks.end("BitsTest");
    }

    private static Object invoke(Method method, Object value) {
        try {
            return method.invoke(null, value);
        } catch (ReflectiveOperationException e) {
            throw new AssertionError(e);
        }
    }
}
