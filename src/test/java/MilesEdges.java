/** The sentences of the promises 1 to 10: a new object, weather and miles. */
final class MilesEdges extends Edges {
    private static final int[] NO_SETTINGS = {-1, 3, Integer.MIN_VALUE, Integer.MAX_VALUE};

    @Says(in = "1", sentence = "Creates a road with ice of 30.0f")
    void newIce() {
        IceConvoys x = new IceConvoys();
        for (int mile = 0; mile < 12; mile++) {
            int m = mile;
            c.due("ice", 30.0f, () -> x.ice(m));
        }
    }

    @Says(in = "1", sentence = "never drilled")
    void newWithoutDrills() {
        IceConvoys x = new IceConvoys();
        for (int mile = 0; mile < 12; mile++) {
            int m = mile;
            c.due("no drill", NONE, () -> x.drilled(m));
            c.due("no day", -1, () -> x.mileOf(m, 2));
            c.due("not good", 0, () -> x.mileOf(m, 3));
        }
        c.due("no good drills", 0, () -> x.account(10));
        c.due("no drills", 0, () -> x.account(11));
    }

    @Says(in = "1", sentence = "without trucks and convoys")
    void newWithoutTrucksAndConvoys() {
        IceConvoys x = new IceConvoys();
        for (int place = 0; place < 10; place++) {
            int p = place;
            c.due("no truck in a row", NONE, () -> x.inRow(p / 5, p % 5, 0));
        }
        for (int mile = 0; mile < 12; mile++) {
            int m = mile;
            c.due("no truck at a mile", NONE, () -> x.at(m));
            c.due("none came", 0, () -> x.mileOf(m, 4));
        }
        for (int convoy = 0; convoy < 4; convoy++) {
            int n = convoy;
            c.due("no convoy", INDEX, () -> x.convoyOf(n, 0));
        }
        for (int what : new int[] {1, 2, 3, 4, 5, 6, 7, 8, 12}) {
            c.due("account " + what, 0, () -> x.account(what));
        }
    }

    @Says(in = "1", sentence = "on the day 0.")
    void newOnTheDay0() {
        c.due("the day", 0, () -> new IceConvoys().account(0));
    }

    @Says(in = "1", sentence = "Creates a road")
    void newObjectsShareNothing() {
        IceConvoys x = busy();
        IceConvoys y = new IceConvoys();
        dueNoDifference("a new one beside another", Look.atAll(new IceConvoys()), Look.atAll(y));
        dueNoDifference("the other one", Look.atAll(busy()), Look.atAll(x));
    }

    @Says(in = "2", sentence = "Sets a setting.")
    void setsOneSettingAlone() {
        int[][] outermost = {{-40, 10}, {0, 100}, {1, 14}};
        for (int what = 0; what < 3; what++) {
            int w = what;
            for (int value : outermost[what]) {
                IceConvoys x = new IceConvoys();
                x.set(w, value);
                c.due("set", value, () -> x.setting(w));
                c.due("another one", new int[] {100, 7, -20}[w], () -> x.setting((w + 1) % 3));
                c.due("the third one", new int[] {7, -20, 100}[w], () -> x.setting((w + 2) % 3));
            }
        }
    }

    @Says(in = "2", sentence = "Returns the value before.")
    void valueBefore() {
        IceConvoys x = new IceConvoys();
        c.due("the first one", -20, () -> x.set(0, -40));
        c.due("the lowest", -40, () -> x.set(0, 10));
        c.due("the highest", 10, () -> x.set(0, 10));
        c.due("the same", 10, () -> x.set(0, 0));
        c.due("the first limit", 100, () -> x.set(1, 0));
        c.due("a limit of 0", 0, () -> x.set(1, 100));
        c.due("the first number of days", 7, () -> x.set(2, 14));
        c.due("14 days", 14, () -> x.set(2, 1));
        c.due("out of range", ARGUMENT, () -> x.set(2, 0));
        c.due("1 day, as nothing was set since", 1, () -> x.set(2, 1));
        x.undo();
        x.undo();
        c.due("as undone", 14, () -> x.set(2, 2));
    }

    @Says(in = "2", sentence = "Throws `IllegalArgumentException` if there is no such setting, or the value is out of range")
    void setOfNoSettingOrOutOfRange() {
        for (int what : NO_SETTINGS) {
            dueThrow("no setting " + what, ARGUMENT, Edges::busy, x -> x.set(what, 5));
        }
        int[][] out = {{-41, 11}, {-1, 101}, {0, 15}};
        for (int what = 0; what < 3; what++) {
            int w = what;
            dueThrow("below", ARGUMENT, Edges::busy, x -> x.set(w, out[w][0]));
            dueThrow("above", ARGUMENT, Edges::busy, x -> x.set(w, out[w][1]));
            dueThrow("far below", ARGUMENT, Edges::busy, x -> x.set(w, Integer.MIN_VALUE));
            dueThrow("far above", ARGUMENT, Edges::busy, x -> x.set(w, Integer.MAX_VALUE));
        }
    }

    @Says(in = "3", sentence = "Returns a setting.")
    void settings() {
        dueOnlyAnswer("the first setting", -20, Edges::busy, x -> x.setting(0));
        dueOnlyAnswer("the limit", 90, Edges::busy, x -> x.setting(1));
        dueOnlyAnswer("the last setting", 9, Edges::busy, x -> x.setting(2));
    }

    @Says(in = "3", sentence = "Returns the value.")
    void valueAsSetLast() {
        IceConvoys x = new IceConvoys();
        x.set(0, 3);
        x.set(0, 4);
        c.due("the last one", 4, () -> x.setting(0));
        x.undo();
        c.due("the one before", 3, () -> x.setting(0));
        c.due("by an order", 1, () -> read(x, "t-9"));
        c.due("as ordered", -9, () -> x.setting(0));
    }

    @Says(in = "3", sentence = "Throws `IllegalArgumentException` if there is no such setting")
    void noSetting() {
        for (int what : NO_SETTINGS) {
            dueThrow("no setting " + what, ARGUMENT, Edges::busy, x -> x.setting(what));
        }
    }

    @Says(in = "4", sentence = "Drills a mile.")
    void drillsOneMileAlone() {
        for (int mile : new int[] {0, 11}) {
            IceConvoys x = new IceConvoys();
            x.drill(mile);
            for (int other = 0; other < 12; other++) {
                int m = other;
                c.due("the drill of " + m, m == mile ? (Object) bits(30.0f) : NONE, () -> x.drilled(m));
            }
            c.due("one drill", 1, () -> x.account(11));
        }
    }

    @Says(in = "4", sentence = "Returns the bits of its ice, as by Float.floatToIntBits.")
    void bitsOfADrill() {
        c.due("no ice", 0, () -> withoutIce().drill(0));
        c.due("the most ice", bits(200.0f), () -> withMostIce().drill(11));
        c.due("the first ice", bits(30.0f), () -> new IceConvoys().drill(5));
        for (int temperature = -40; temperature <= 10; temperature++) {
            IceConvoys x = new IceConvoys();
            x.set(0, temperature);
            x.pass(7);
            c.due("at " + temperature, bits(x.ice(3)), () -> x.drill(3));
        }
    }

    @Says(in = "4", sentence = "Throws `IndexOutOfBoundsException` if there is no such mile")
    void drillOfNoMile() {
        for (int mile : NO_MILES) {
            dueThrow("no mile " + mile, INDEX, Edges::busy, x -> x.drill(mile));
        }
    }

    @Says(in = "5", sentence = "Returns the ice that was noted when a mile was drilled last.")
    void notedLast() {
        IceConvoys x = new IceConvoys();
        x.drill(0);
        x.pass(1);
        x.drill(0);
        x.pass(30);
        c.due("by the second drill, though not good", bits(30.75f), () -> x.drilled(0));
        x.undo();
        x.undo();
        c.due("by the first drill again", bits(30.0f), () -> x.drilled(0));
        dueOnlyAnswer("the mile 11", bits(thick().ice(11)), Edges::busy, y -> y.drilled(11));
    }

    @Says(in = "5", sentence = "Returns the bits, as by Float.floatToIntBits.")
    void bitsOfADrillLater() {
        IceConvoys x = withoutIce();
        x.drill(0);
        x.set(0, -40);
        x.pass(1);
        c.due("no ice, though drilled", 0, () -> x.drilled(0));
        IceConvoys y = withMostIce();
        y.drill(11);
        y.set(0, 10);
        y.pass(1);
        c.due("the most ice", bits(200.0f), () -> y.drilled(11));
    }

    @Says(in = "5", sentence = "Throws `IndexOutOfBoundsException` if there is no such mile")
    void drilledOfNoMile() {
        for (int mile : NO_MILES) {
            dueThrow("no mile " + mile, INDEX, Edges::busy, x -> x.drilled(mile));
        }
    }

    @Says(in = "5", sentence = "Throws `NoSuchElementException` if it was never drilled")
    void neverDrilled() {
        for (int mile : new int[] {0, 11}) {
            dueThrow("never drilled", NONE, IceConvoys::new, x -> x.drilled(mile));
            dueThrow("the mile beside it alone", NONE, () -> withDrill(Math.abs(mile - 1)), x -> x.drilled(mile));
        }
        IceConvoys x = withDrill(0);
        x.undo();
        c.due("its only drill was undone", NONE, () -> x.drilled(0));
        IceConvoys y = new IceConvoys();
        y.save();
        y.drill(0);
        y.restore();
        c.due("drilled after the snapshot", NONE, () -> y.drilled(0));
    }

    private static IceConvoys withDrill(int mile) {
        IceConvoys x = new IceConvoys();
        x.drill(mile);
        return x;
    }

    @Says(in = "6", sentence = "0 for its cracks")
    void numberOfCracks() {
        dueOnlyAnswer("at first", 0, IceConvoys::new, x -> x.mileOf(0, 0));
        c.due("the most", 5, () -> withFiveCracks().mileOf(11, 0));
        c.due("of another mile", 0, () -> rolled(4, 1, 60, 60, 60).mileOf(1, 0));
    }

    @Says(in = "6", sentence = "1 for its strain")
    void numberOfStrain() {
        dueOnlyAnswer("at first", 0, IceConvoys::new, x -> x.mileOf(0, 1));
        c.due("the most", 19, () -> rolled(4, 1, 60, 50, 50).mileOf(0, 1));
        c.due("0 again", 0, () -> rolled(4, 1, 60, 60, 50).mileOf(0, 1));
        c.due("of the mile ahead", 0, () -> rolled(4, 1, 60, 60, 50).mileOf(5, 1));
    }

    @Says(in = "6", sentence = "2 for the day on which it was drilled last, -1 if it never was")
    void dayOfTheDrill() {
        IceConvoys x = new IceConvoys();
        c.due("never", -1, () -> x.mileOf(3, 2));
        x.drill(3);
        c.due("on the first day", 0, () -> x.mileOf(3, 2));
        x.pass(30);
        c.due("still, though not good", 0, () -> x.mileOf(3, 2));
        x.drill(3);
        c.due("on a later day", 30, () -> x.mileOf(3, 2));
        c.due("another mile never", -1, () -> x.mileOf(2, 2));
    }

    @Says(in = "6", sentence = "3 for 1 if its drill is good now and 0 otherwise")
    void isTheDrillGood() {
        IceConvoys x = new IceConvoys();
        c.due("never drilled", 0, () -> x.mileOf(0, 3));
        x.drill(0);
        c.due("on its day", 1, () -> x.mileOf(0, 3));
        x.pass(7);
        c.due("on its last day", 1, () -> x.mileOf(0, 3));
        x.pass(1);
        c.due("a day later", 0, () -> x.mileOf(0, 3));
        x.set(2, 8);
        c.due("good for 8 days", 1, () -> x.mileOf(0, 3));
        x.set(2, 7);
        c.due("good for 7 days", 0, () -> x.mileOf(0, 3));
        x.drill(0);
        c.due("drilled again", 1, () -> x.mileOf(0, 3));
    }

    @Says(in = "6", sentence = "4 for how often trucks came to it so far")
    void howOftenTrucksCame() {
        IceConvoys x = thickWith(1, 5, 5);
        addConvoy(x, 1, 5);
        c.due("none", 0, () -> x.mileOf(0, 4));
        x.start(0);
        c.due("by the start", 1, () -> x.mileOf(0, 4));
        x.roll(0);
        c.due("the second is at -1", 1, () -> x.mileOf(0, 4));
        x.roll(0);
        c.due("the second", 2, () -> x.mileOf(0, 4));
        x.pass(30);
        c.due("one that stays did not come again", 2, () -> x.mileOf(0, 4));
        drillAll(x);
        roll(x, 0, 10);
        c.due("one at the mile 11", 1, () -> x.mileOf(11, 4));
        roll(x, 0, 2);
        x.start(1);
        c.due("of another convoy", 3, () -> x.mileOf(0, 4));
        c.due("both at the mile 11", 2, () -> x.mileOf(11, 4));
    }

    @Says(in = "6", sentence = "Throws `IndexOutOfBoundsException` if there is no such mile")
    void mileOfNoMile() {
        for (int mile : NO_MILES) {
            dueThrow("no mile " + mile, INDEX, Edges::busy, x -> x.mileOf(mile, 0));
            dueThrow("no mile " + mile + " and no number", INDEX, Edges::busy, x -> x.mileOf(mile, 5));
        }
    }

    @Says(in = "6", sentence = "Throws `IllegalArgumentException` if what is not from 0 to 4")
    void mileOfNoNumber() {
        for (int what : new int[] {-1, 5, Integer.MIN_VALUE, Integer.MAX_VALUE}) {
            dueThrow("no number " + what, ARGUMENT, Edges::busy, x -> x.mileOf(11, what));
        }
        for (int what = 0; what <= 4; what++) {
            int w = what;
            dueOnlyAnswer("number " + what, new int[] {0, 7, 30, 1, 1}[w], Edges::busy, x -> x.mileOf(4, w));
        }
    }

    @Says(in = "7", sentence = "Returns the ice of a mile as it is.")
    void iceAsItIs() {
        c.due("none", 0.0f, () -> withoutIce().ice(0));
        c.due("the most", 200.0f, () -> withMostIce().ice(11));
        IceConvoys x = new IceConvoys();
        x.drill(0);
        x.pass(1);
        c.due("not as it was noted", 30.75f, () -> x.ice(0));
        x.undo();
        c.due("as it was", 30.0f, () -> x.ice(0));
        dueOnlyAnswer("asked", x.ice(0), IceConvoys::new, y -> y.ice(11));
    }

    @Says(in = "7", sentence = "Throws `IndexOutOfBoundsException` if there is no such mile")
    void iceOfNoMile() {
        for (int mile : NO_MILES) {
            dueThrow("no mile " + mile, INDEX, Edges::busy, x -> x.ice(mile));
        }
    }

    @Says(in = "8", sentence = "Returns what a mile bears by its drill.")
    void bearsByItsDrill() {
        dueOnlyAnswer("never drilled", 0, IceConvoys::new, x -> x.bears(0));
        IceConvoys x = new IceConvoys();
        x.drill(0);
        x.pass(7);
        c.due("by the noted ice on the last good day", bits(36.0f), () -> x.bears(0));
        c.due("the mile beside it", 0, () -> x.bears(1));
        x.pass(1);
        c.due("a day later", 0, () -> x.bears(0));
        x.set(2, 14);
        c.due("by the drill's setting as it is now", bits(36.0f), () -> x.bears(0));
        x.set(1, 0);
        c.due("at a limit of 0", 0, () -> x.bears(0));
    }

    @Says(in = "8", sentence = "Returns the bits, as by Float.floatToIntBits.")
    void bitsOfWhatIsBorne() {
        for (int limit = 0; limit <= 100; limit++) {
            float percent = (float) limit / 100.0f;
            IceConvoys x = withMostIce();
            x.drill(7);
            x.set(1, limit);
            c.due("the most ice at " + limit, bits(200.0f * 200.0f * 0.04f * percent), () -> x.bears(7));
            IceConvoys y = new IceConvoys();
            y.set(0, 10);
            y.pass(7);
            y.drill(7);
            y.set(1, limit);
            float thin = y.ice(0);
            c.due("thin ice at " + limit, bits(thin * thin * 0.04f * percent), () -> y.bears(7));
        }
    }

    @Says(in = "8", sentence = "Throws `IndexOutOfBoundsException` if there is no such mile")
    void bearsOfNoMile() {
        for (int mile : NO_MILES) {
            dueThrow("no mile " + mile, INDEX, Edges::busy, x -> x.bears(mile));
        }
    }

    @Says(in = "9", sentence = "Returns \"T\" if a truck is at it")
    void signOfATruck() {
        IceConvoys x = rolled(0, 1, 60, 60);
        c.due("at the mile 0", 'T', () -> x.sign(0));
        c.due("not ahead", '0', () -> x.sign(1));
        x.pass(8);
        c.due("also if the drill is not good", 'T', () -> x.sign(0));
        IceConvoys y = rolled(11, 1, 60, 60);
        c.due("at the mile 11", 'T', () -> y.sign(11));
        c.due("the second truck", 'T', () -> y.sign(9));
        c.due("between", '0', () -> y.sign(10));
        y.roll(0);
        c.due("arrived", '0', () -> y.sign(11));
        c.due("before the start", '0', () -> thickWith(1, 60).sign(0));
    }

    @Says(in = "9", sentence = "otherwise \"?\" if its drill is not good now")
    void signOfNoGoodDrill() {
        dueOnlyAnswer("never drilled", '?', IceConvoys::new, x -> x.sign(0));
        IceConvoys x = rolled(5, 1, 60, 60, 60);
        x.pass(7);
        c.due("on the last good day, with a crack", '1', () -> x.sign(0));
        x.pass(1);
        c.due("a day later, with a crack", '?', () -> x.sign(0));
    }

    @Says(in = "9", sentence = "otherwise the digit for its cracks.")
    void signOfCracks() {
        IceConvoys x = withFiveCracks();
        x.set(0, -40);
        for (int cracks = 5; cracks >= 0; cracks--) {
            char digit = (char) ('0' + cracks);
            c.due("the digit", digit, () -> x.sign(0));
            c.due("the digit", digit, () -> x.sign(11));
            x.pass(1);
        }
    }

    @Says(in = "9", sentence = "Throws `IndexOutOfBoundsException` if there is no such mile")
    void signOfNoMile() {
        for (int mile : NO_MILES) {
            dueThrow("no mile " + mile, INDEX, Edges::busy, x -> x.sign(mile));
        }
    }

    @Says(in = "10", sentence = "Returns the mile that bears least by its drill")
    void theMileThatBearsLeast() {
        for (int mile = 0; mile < 12; mile++) {
            int m = mile;
            IceConvoys x = new IceConvoys();
            for (int other = 0; other < 12; other++) {
                if (other != m) {
                    x.drill(other);
                }
            }
            c.due("never drilled", m, x::weakest);
            x.drill(m);
            x.pass(1);
            for (int other = 0; other < 12; other++) {
                if (other != m) {
                    x.drill(other);
                }
            }
            c.due("drilled when the ice was thinner", m, x::weakest);
            x.set(0, 10);
            x.pass(3);
            c.due("by what was noted, not by the ice", m, x::weakest);
        }
        IceConvoys y = rolled(3, 1, 60, 60, 60);
        y.roll(0);
        c.due("by a crack", 0, y::weakest);
    }

    @Says(in = "10", sentence = "of several the lowest one.")
    void theLowestOfSeveral() {
        dueOnlyAnswer("all bear nothing", 0, IceConvoys::new, x -> x.weakest());
        IceConvoys x = thick();
        c.due("all bear the same", 0, x::weakest);
        x.set(1, 0);
        c.due("all bear nothing at a limit of 0", 0, x::weakest);
        IceConvoys z = withDrill(0);
        z.set(1, 0);
        c.due("0.0f by a drill and 0.0f without one", 0, z::weakest);
        z.undo();
        z.pass(8);
        z.drill(5);
        z.set(1, 0);
        c.due("0.0f by an old drill, by a new one and without one", 0, z::weakest);
        IceConvoys y = new IceConvoys();
        for (int mile = 0; mile < 10; mile++) {
            y.drill(mile);
        }
        c.due("the last two", 10, y::weakest);
        y.pass(1);
        y.drill(10);
        y.drill(11);
        y.drill(0);
        c.due("of 1 to 9", 1, y::weakest);
    }
}
