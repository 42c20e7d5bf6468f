import java.lang.reflect.Array;
import java.lang.reflect.Field;

/** Sets fields inside an object, for states that the document names but no run of calls comes to. */
final class Inside {
    private Inside() {
    }

    /** A path like now.miles[3].cracks. */
    static void set(IceConvoys x, String path, Object value) {
        try {
            Object owner = x;
            String[] names = path.split("[.]");
            for (int k = 0; k < names.length - 1; k++) {
                owner = get(owner, names[k]);
            }
            field(owner, names[names.length - 1]).set(owner, value);
        } catch (ReflectiveOperationException e) {
            throw new AssertionError(e);
        }
    }

    private static Object get(Object owner, String name) throws ReflectiveOperationException {
        int bracket = name.indexOf('[');
        if (bracket < 0) {
            return field(owner, name).get(owner);
        }
        int index = Integer.parseInt(name.substring(bracket + 1, name.length() - 1));
        return Array.get(field(owner, name.substring(0, bracket)).get(owner), index);
    }

    private static Field field(Object owner, String name) throws ReflectiveOperationException {
        Field field = owner.getClass().getDeclaredField(name);
        field.setAccessible(true);
        return field;
    }
}
