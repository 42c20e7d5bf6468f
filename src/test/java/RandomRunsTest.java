import java.lang.reflect.InvocationTargetException;
import java.lang.reflect.Method;
import java.util.ArrayList;
import java.util.Arrays;
import java.util.Comparator;
import java.util.List;
import java.util.Map;
import java.util.Random;
import java.util.TreeMap;

/** Compares the class with the Model, call by call, in runs of 512 calls drawn from written seeds. */
public final class RandomRunsTest {
    private static final int RUNS = 1500;
    private static final int CALLS = 512;
    private static final int[] ODD = {Integer.MIN_VALUE, -1, 12, 99, Integer.MAX_VALUE};

    /** How often each change is drawn; the rest of the calls are questions. */
    private static final String CHANGES = "drill drill drill drill roll roll roll roll roll roll start start truck truck "
            + "convoy join join join pass set text text undo save restore";

    private final Checks checks = new Checks();
    private final Map<String, Integer> reached = new TreeMap<>();
    private final List<Method> face = face();
    private Random random;
    private IceConvoys x;
    private Model model;
    private int calls;
    private String run;
    private boolean isWild;

    public static void main(String[] args) {
        RandomRunsTest test = new RandomRunsTest();
        for (int run = 0; run < RUNS && test.checks.wrong() < 20; run++) {
            test.doRun(run);
        }
        if (args.length > 0) {
            test.reached.forEach((what, count) -> System.out.println(count + " " + what));
        }
        test.checks.end("RandomRunsTest");
    }

    private static List<Method> face() {
        List<Method> face = new ArrayList<>(Arrays.asList(IceConvoys.class.getDeclaredMethods()));
        face.removeIf(m -> !java.lang.reflect.Modifier.isPublic(m.getModifiers()));
        face.sort(Comparator.comparing(Method::getName));
        return face;
    }

    private void doRun(int number) {
        random = new Random(number);
        x = new IceConvoys();
        model = new Model();
        calls = 0;
        run = "run " + number;
        isWild = number % 3 == 0;
        if (!isWild) {
            begin();
        }
        String[] changes = CHANGES.split(" ");
        while (calls < CALLS - 61) {
            String name = changes[random.nextInt(changes.length)];
            if (random.nextInt(3) == 0) {
                Method asked = face.get(random.nextInt(face.size()));
                call(asked.getName(), arguments(asked));
            } else if (name.equals("text")) {
                type();
            } else if (!isRareAndNotNow(name)) {
                call(name, arguments(method(name)));
            }
        }
        while (calls < CALLS) {
            Method asked = face.get(random.nextInt(face.size()));
            call(asked.getName(), arguments(asked));
        }
    }

    /** Trucks in rows and in two convoys, and every mile drilled, so that a run comes far. */
    private void begin() {
        boolean isHeavy = random.nextBoolean();
        call("set", 0, -40 + random.nextInt(30));
        call("pass", isHeavy ? 10 + random.nextInt(8) : 1 + random.nextInt(30));
        for (int row = 0; row < 2; row++) {
            for (int k = 0; k < 5; k++) {
                int weight = isHeavy ? 45 + random.nextInt(16) : 5 + random.nextInt(56);
                call("truck", row, weight, 2 + random.nextInt(5), row);
            }
        }
        for (int convoy = 0; convoy < 2; convoy++) {
            call("convoy", 1 + random.nextInt(3));
            for (int k = 0; k < 4; k++) {
                call("join", convoy, random.nextInt(2), random.nextInt(5));
            }
        }
        for (int mile = 0; mile < 12; mile++) {
            call("drill", mile);
        }
        call("pass", 1 + random.nextInt(5));
        for (int mile = 0; mile < 12; mile += 1 + random.nextInt(3)) {
            call("drill", mile);
        }
    }

    private boolean isRareAndNotNow(String name) {
        boolean isRare = name.equals("set") || name.equals("undo") || name.equals("restore") || name.equals("save");
        return !isWild && isRare && random.nextInt(8) != 0;
    }

    private void type() {
        StringBuilder text = new StringBuilder();
        int orders = 1 + random.nextInt(random.nextInt(4) == 0 ? 20 : 4);
        for (int k = 0; k < orders; k++) {
            text.append(k == 0 ? "" : ";").append(order());
        }
        if (random.nextInt(4) == 0 && text.length() > 0) {
            int place = random.nextInt(text.length());
            String signs = "drstjp0123456789-:.; x\u0000\u0665";
            switch (random.nextInt(3)) {
                case 0 -> text.deleteCharAt(place);
                case 1 -> text.setCharAt(place, signs.charAt(random.nextInt(signs.length())));
                default -> text.insert(place, signs.charAt(random.nextInt(signs.length())));
            }
        }
        for (int k = 0; k < text.length(); k++) {
            call("append", text.charAt(k));
        }
        call("read");
        call("errorPosition");
    }

    private String order() {
        switch (random.nextInt(isWild ? 6 : 12)) {
            case 0:
                return "t" + (random.nextBoolean() ? "-" : "") + random.nextInt(random.nextInt(4) == 0 ? 50 : 11);
            case 1:
                return "p" + random.nextInt(random.nextInt(3) == 0 ? 35 : 4);
            case 2:
                return "s" + random.nextInt(3);
            case 3:
                return "j" + random.nextInt(3) + ":" + random.nextInt(2) + "." + random.nextInt(5);
            case 4:
            case 5:
            case 6:
                return "r" + random.nextInt(3);
            default:
                return "d" + random.nextInt(12 + random.nextInt(2));
        }
    }

    private Object[] arguments(Method method) {
        Class<?>[] types = method.getParameterTypes();
        Object[] arguments = new Object[types.length];
        for (int k = 0; k < types.length; k++) {
            if (types[k] == boolean.class) {
                arguments[k] = random.nextBoolean();
            } else if (types[k] == char.class) {
                arguments[k] = "dsrt-0:.;x".charAt(random.nextInt(10));
            } else {
                arguments[k] = number(method.getName(), k);
            }
        }
        if (method.getName().equals("truck") && random.nextInt(10) != 0) {
            arguments[3] = arguments[0];
        }
        if (method.getName().equals("set")) {
            int[] values = {-42 + random.nextInt(54), random.nextInt(10) == 0 ? random.nextInt(103) - 1 : 100 - random.nextInt(20),
                random.nextInt(16)};
            arguments[1] = arguments[0] instanceof Integer what && what >= 0 && what < 3 ? values[what] : 5;
        }
        return arguments;
    }

    private int number(String name, int k) {
        if (random.nextInt(isWild ? 12 : 60) == 0) {
            return ODD[random.nextInt(ODD.length)];
        }
        switch (name + k) {
            case "truck0", "truck3", "inRow0", "inRow2", "join1":
                return random.nextInt(isWild ? 3 : 2);
            case "truck1":
                return 4 + random.nextInt(58);
            case "truck2":
                return 1 + random.nextInt(7);
            case "inRow1", "join2":
                return random.nextInt(isWild ? 6 : 5);
            case "convoy0":
                return random.nextInt(5);
            case "iceIn1":
                return random.nextInt(63) - 1;
            case "bearsIn1":
                return random.nextInt(102);
            case "pass0":
                return random.nextInt(8) == 0 ? random.nextInt(33) : 1 + random.nextInt(2);
            case "mileOf1":
                return random.nextInt(6);
            case "convoyOf1":
                return random.nextInt(7);
            case "truckOf2", "set0", "setting0":
                return random.nextInt(5) - 1;
            case "account0":
                return random.nextInt(17) - 1;
            case "truckOf1", "load1":
                return random.nextInt(5);
            default:
                return List.of("drill", "drilled", "mileOf", "ice", "bears", "sign", "at", "iceIn", "bearsIn").contains(name)
                        ? random.nextInt(12) : random.nextInt(random.nextInt(3) == 0 ? 5 : 2);
        }
    }

    private Method method(String name) {
        return face.stream().filter(m -> m.getName().equals(name)).findFirst().orElseThrow();
    }

    private void call(String name, Object... arguments) {
        if (calls == CALLS) {
            return;
        }
        calls++;
        Object want = Checks.outcome(() -> invoke(model, name, arguments));
        reached.merge(name + " " + (want instanceof Class<?> c ? c.getSimpleName() : "answers"), 1, Integer::sum);
        checks.due(run + ", call " + calls + ": " + name + Arrays.toString(arguments), want, () -> invoke(x, name, arguments));
    }

    private Object invoke(Object target, String name, Object[] arguments) {
        try {
            return target.getClass().getMethod(name, method(name).getParameterTypes()).invoke(target, arguments);
        } catch (InvocationTargetException e) {
            throw (RuntimeException) e.getCause();
        } catch (ReflectiveOperationException e) {
            throw new AssertionError(e);
        }
    }
}
