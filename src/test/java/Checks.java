import java.util.Objects;

/** Counts what is not as due; a test's main method ends with exit code 1 if there was any. */
final class Checks {
    interface Call {
        Object answer();
    }

    private int made = 0;
    private int wrong = 0;

    /** A call's answer, or the exact class of the exception that it throws. */
    static Object outcome(Call call) {
        try {
            return call.answer();
        } catch (RuntimeException e) {
            return e.getClass();
        }
    }

    void due(String what, Object want, Call call) {
        made++;
        Object got = outcome(call);
        if (!Objects.equals(got, want)) {
            wrong++;
            System.out.println(what + " answered " + got + ", due is " + want);
        }
    }

    void refused(String what, IceConvoys x, int reason, int detail, Call call) {
        due(what, UnsupportedOperationException.class, call);
        due(what + ": reason", reason, () -> x.refusal(false));
        due(what + ": detail", detail, () -> x.refusal(true));
    }

    int made() {
        return made;
    }

    int wrong() {
        return wrong;
    }

    void end(String name) {
        System.out.println(name + ": " + made + " answers asked, " + wrong + " not as due");
        if (wrong != 0 || made == 0) {
            System.exit(1);
        }
    }
}
