import java.util.List;

/** What the tests by sentences share; each of them runs on an object of its class of its own. */
class Edges extends Roads {
    interface Making {
        IceConvoys road();
    }

    interface Act {
        Object on(IceConvoys x);
    }

    final Checks c = new Checks();

    /** The call throws this exception, and then all is as if it had not been made. */
    void dueThrow(String what, Class<?> exception, Making making, Act act) {
        IceConvoys x = making.road();
        c.due(what, exception, () -> act.on(x));
        dueNoDifference(what, Look.atAll(making.road()), Look.atAll(x));
    }

    /** The call is refused for this reason, and then all but the reason is as if it had not been made. */
    void dueRefused(String what, int reason, int detail, Making making, Act act) {
        IceConvoys x = making.road();
        IceConvoys without = making.road();
        c.refused(what, x, reason, detail, () -> act.on(x));
        c.due(what + ": the error position", without.errorPosition(), x::errorPosition);
        c.due(what + ": the input", without.account(13), () -> x.account(13));
        dueNoDifference(what, Look.atChangeable(without), Look.atChangeable(x));
    }

    /** The text is read with this exception and error position; then the input is empty, and all else as before. */
    void dueUnread(String text, Class<?> exception, int position, Making making) {
        IceConvoys x = making.road();
        IceConvoys without = making.road();
        c.due("read of " + text, exception, () -> read(x, text));
        c.due("the error position of " + text, position, x::errorPosition);
        c.due("the input after " + text, 0, () -> x.account(13));
        if (exception != REFUSED) {
            Object reason = Checks.outcome(() -> without.refusal(false));
            c.due("the reason after " + text, reason, () -> x.refusal(false));
        }
        dueNoDifference("read of " + text, Look.atChangeable(without), Look.atChangeable(x));
    }

    /** The question leaves all as it is. */
    void dueOnlyAnswer(String what, Object answer, Making making, Act act) {
        IceConvoys x = making.road();
        c.due(what, answer, () -> act.on(x));
        dueNoDifference(what, Look.atAll(making.road()), Look.atAll(x));
    }

    void dueNoDifference(String what, List<String> want, List<String> got) {
        c.due(what + ": a difference behind it", "none", () -> Look.difference(want, got));
    }

    /** On the day 30, with ice of some 62, which bears 60 tonnes also through 5 cracks, and good drills. */
    static IceConvoys thick() {
        IceConvoys x = new IceConvoys();
        x.set(0, -40);
        x.pass(30);
        x.set(0, -20);
        drillAll(x);
        return x;
    }

    static IceConvoys thickWith(int gap, int... weights) {
        IceConvoys x = thick();
        addConvoy(x, gap, weights);
        return x;
    }

    /** A thick road with one convoy that has started and rolled so often. */
    static IceConvoys rolled(int times, int gap, int... weights) {
        IceConvoys x = thickWith(gap, weights);
        x.start(0);
        roll(x, 0, times);
        return x;
    }

    /** All 16 trucks went over all miles: 112 of strain, which is 5 cracks and 12. */
    static IceConvoys withFiveCracks() {
        IceConvoys x = thick();
        for (int convoy = 0; convoy < 4; convoy++) {
            addConvoy(x, 1, 60, 60, 60, 60);
            x.start(convoy);
            roll(x, convoy, 18);
        }
        return x;
    }

    static IceConvoys withoutIce() {
        IceConvoys x = new IceConvoys();
        x.set(0, 10);
        x.pass(8);
        return x;
    }

    static IceConvoys withMostIce() {
        IceConvoys x = new IceConvoys();
        x.set(0, -40);
        for (int k = 0; k < 12; k++) {
            x.pass(30);
        }
        return x;
    }

    static IceConvoys withFullRows() {
        IceConvoys x = new IceConvoys();
        for (int place = 0; place < 5; place++) {
            x.truck(0, 20 + place, 2, 0);
            x.truck(1, 30 + place, 3, 1);
        }
        return x;
    }

    static IceConvoys withConvoys(int count) {
        IceConvoys x = new IceConvoys();
        for (int convoy = 0; convoy < count; convoy++) {
            x.convoy(1);
        }
        return x;
    }

    /**
     * Something of everything: the convoy 0 with trucks at the miles 4 and 1 and one yet to come, 1 at the mile 0,
     * 2 not started, 3 without trucks, a truck in each row, a snapshot, 8 changes to undo, a reason (3, 1), an
     * error position (3) and "d1" in the input.
     */
    static IceConvoys busy() {
        IceConvoys x = thick();
        x.set(1, 90);
        x.set(2, 9);
        addConvoy(x, 2, 60, 19, 5);
        x.start(0);
        roll(x, 0, 4);
        addConvoy(x, 1, 50);
        x.start(1);
        addConvoy(x, 1, 12);
        x.convoy(3);
        x.save();
        x.truck(0, 33, 3, 0);
        x.truck(1, 44, 4, 1);
        x.pass(2);
        x.drill(7);
        Checks.outcome(() -> x.truck(0, 5, 2, 1));
        Checks.outcome(() -> read(x, "d0;q"));
        type(x, "d1");
        return x;
    }
}
