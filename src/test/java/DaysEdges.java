/** The sentences of the promises 22 to 26: ahead and days. */
final class DaysEdges extends Edges {
    private static final int[] NO_CONVOYS = {-1, 4, Integer.MIN_VALUE, Integer.MAX_VALUE};

    @Says(in = "22", sentence = "Returns how often a convoy that has started could roll, one time after the other, if nothing else was done.")
    void rollsUntilItIsDone() {
        dueRolls(12, 0, () -> rolled(0, 1, 60));
        dueRolls(24, 0, () -> rolled(0, 3, 60, 60, 60, 60));
        dueRolls(18, 0, () -> rolled(0, 1, 60, 60, 60, 60));
        dueRolls(1, 0, () -> rolled(11, 1, 60));
        dueRolls(1, 0, () -> rolled(23, 3, 5, 5, 5, 5));
        dueRolls(0, 0, () -> rolled(12, 1, 60));
        dueRolls(0, 0, () -> rolled(24, 3, 5, 5, 5, 5));
    }

    @Says(in = "23", sentence = "Returns the same by a second way: by rolling in a copy.")
    void rollsUntilItIsStopped() {
        dueRolls(1, 0, Edges::busy);
        dueRolls(0, 1, Edges::busy);
        dueRolls(0, 0, DaysEdges::withWeakMile1);
        for (int drills = 1; drills <= 11; drills++) {
            int n = drills;
            dueRolls(n - 1, 0, () -> withDrills(n, 36));
        }
        dueRolls(12, 0, () -> withDrills(12, 36));
        dueRolls(1, 0, () -> withDrills(12, 5, 37));
        dueRolls(9, 0, () -> rolledBehindAnother(10));
        dueRolls(0, 0, () -> rolledBehindAnother(1));
        dueRolls(5, 0, () -> ownCrack(60, 60, 60, 60));
        dueRolls(5, 0, () -> ownCrack(60, 60, 50, 60));
        dueRolls(18, 0, () -> ownCrack(60, 50, 50, 60));
        dueRolls(18, 0, () -> ownCrack(60, 60, 60, 54));
        dueRolls(5, 0, () -> ownCrack(60, 60, 60, 55));
    }

    /** Both ways answer so, and leave all as it is. */
    private void dueRolls(int times, int convoy, Making making) {
        dueOnlyAnswer("rolls", times, making, x -> x.rolls(convoy));
        dueOnlyAnswer("rollsAgain", times, making, x -> x.rollsAgain(convoy));
        IceConvoys x = making.road();
        for (int k = 1; k <= times; k++) {
            x.roll(convoy);
        }
        c.due("not once more", REFUSED, () -> x.roll(convoy));
    }

    private static IceConvoys withWeakMile1() {
        IceConvoys x = rolled(0, 1, 60);
        x.set(1, 1);
        return x;
    }

    /** Started on ice that bears 36 tonnes, with drills of so many miles. */
    private static IceConvoys withDrills(int count, int... weights) {
        IceConvoys x = withConvoy(1, weights);
        for (int mile = 0; mile < count; mile++) {
            x.drill(mile);
        }
        x.start(0);
        return x;
    }

    /** The convoy 0 at the mile 0, with a truck of the convoy 1 at this mile. */
    private static IceConvoys rolledBehindAnother(int mile) {
        IceConvoys x = thickWith(1, 5);
        addConvoy(x, 1, 5);
        x.start(1);
        roll(x, 1, mile);
        x.start(0);
        return x;
    }

    /** Started on ice that bears 60.36 tonnes without a crack, and 54.33 with one. */
    private static IceConvoys ownCrack(int... weights) {
        IceConvoys x = withConvoy(1, weights);
        x.pass(13);
        drillAll(x);
        x.start(0);
        return x;
    }

    @Says(in = "22", sentence = "Returns how often, 0 if it has not started.")
    void rollsBeforeTheStart() {
        dueOnlyAnswer("not started", 0, () -> thickWith(1, 5), x -> x.rolls(0));
        dueOnlyAnswer("without trucks", 0, Edges::busy, x -> x.rolls(3));
    }

    @Says(in = "23", sentence = "Returns how often, 0 if it has not started.")
    void rollsAgainBeforeTheStart() {
        dueOnlyAnswer("not started", 0, () -> thickWith(1, 5), x -> x.rollsAgain(0));
        dueOnlyAnswer("without trucks", 0, Edges::busy, x -> x.rollsAgain(3));
    }

    @Says(in = "22", sentence = "Throws `IndexOutOfBoundsException` if there is no such convoy")
    void rollsOfNoConvoy() {
        for (int convoy : NO_CONVOYS) {
            dueThrow("no convoy " + convoy, INDEX, Edges::busy, x -> x.rolls(convoy));
        }
        dueThrow("not yet", INDEX, () -> withConvoys(3), x -> x.rolls(3));
    }

    @Says(in = "23", sentence = "Throws `IndexOutOfBoundsException` if there is no such convoy")
    void rollsAgainOfNoConvoy() {
        for (int convoy : NO_CONVOYS) {
            dueThrow("no convoy " + convoy, INDEX, Edges::busy, x -> x.rollsAgain(convoy));
        }
        dueThrow("not yet", INDEX, () -> withConvoys(3), x -> x.rollsAgain(3));
    }

    @Says(in = "24", sentence = "Returns the ice that a mile would have after days, if only days went by.")
    void iceAhead() {
        dueOnlyAnswer("growing", bits(grown(30.0f, 20, 60)), IceConvoys::new, x -> x.iceIn(0, 60));
        dueOnlyAnswer("as it is", bits(30.0f), IceConvoys::new, x -> x.iceIn(11, 0));
        for (int temperature : new int[] {-40, -1, 0, 1, 10}) {
            IceConvoys x = new IceConvoys();
            x.set(0, temperature);
            for (int days = 1; days <= 30; days++) {
                int d = days;
                int ahead = x.iceIn(4, d);
                x.pass(d);
                c.due(d + " days at " + temperature, ahead, () -> bits(x.ice(4)));
                x.undo();
            }
        }
    }

    @Says(in = "24", sentence = "how many, 0 to 60")
    void outermostDaysAhead() {
        IceConvoys x = new IceConvoys();
        c.due("0 days", bits(30.0f), () -> x.iceIn(0, 0));
        c.due("60 days", bits(grown(30.0f, 20, 60)), () -> x.iceIn(0, 60));
    }

    @Says(in = "24", sentence = "Returns the bits, as by Float.floatToIntBits.")
    void bitsOfIceAhead() {
        c.due("2.0f", bits(2.0f), () -> melting().iceIn(0, 14));
        c.due("just nothing", 0, () -> melting().iceIn(0, 15));
        c.due("not less", 0, () -> melting().iceIn(0, 60));
        IceConvoys x = new IceConvoys();
        x.set(0, -40);
        for (int k = 0; k < 10; k++) {
            x.pass(30);
        }
        c.due("below the most", bits(grownAtMost(30.0f, 40, 353)), () -> x.iceIn(0, 53));
        c.due("the most", bits(200.0f), () -> x.iceIn(0, 54));
        c.due("not more", bits(200.0f), () -> x.iceIn(0, 60));
    }

    private static IceConvoys melting() {
        IceConvoys x = new IceConvoys();
        x.set(0, 5);
        return x;
    }

    @Says(in = "24", sentence = "Throws `IndexOutOfBoundsException` if there is no such mile")
    void iceAheadOfNoMile() {
        for (int mile : NO_MILES) {
            dueThrow("no mile " + mile, INDEX, Edges::busy, x -> x.iceIn(mile, 0));
            dueThrow("no mile " + mile + " and too many days", INDEX, Edges::busy, x -> x.iceIn(mile, 61));
        }
    }

    @Says(in = "24", sentence = "Throws `IllegalArgumentException` if the number is out of range")
    void daysAheadOutOfRange() {
        for (int days : new int[] {-1, 61, Integer.MIN_VALUE, Integer.MAX_VALUE}) {
            dueThrow("days " + days, ARGUMENT, Edges::busy, x -> x.iceIn(11, days));
        }
    }

    @Says(in = "25", sentence = "the ice, times the ice, times 0.04f is at least the tonnes as a float.")
    void atLeastTheTonnes() {
        c.due("just 36 tonnes", 0, () -> new IceConvoys().bearsIn(0, 36));
        c.due("not 37", 1, () -> new IceConvoys().bearsIn(0, 37));
        for (int tonnes = 1; tonnes <= 99; tonnes++) {
            int t = tonnes;
            float ice = 30.0f;
            int days = 0;
            while (ice * ice * 0.04f < (float) tonnes) {
                ice = grown(ice, 20, 1);
                days++;
            }
            c.due(t + " tonnes", days, () -> new IceConvoys().bearsIn(11, t));
        }
    }

    @Says(in = "25", sentence = "without cracks and at a limit of 100 percent, if only days went by")
    void neitherCracksNorTheLimitNorTheDrill() {
        IceConvoys x = withFiveCracks();
        x.set(1, 0);
        c.due("with 5 cracks at a limit of 0", 0, () -> x.bearsIn(0, 99));
        dueOnlyAnswer("never drilled", 33, IceConvoys::new, y -> y.bearsIn(0, 99));
        IceConvoys y = new IceConvoys();
        y.drill(0);
        y.set(0, 10);
        y.pass(3);
        c.due("not by the ice that was noted", NONE, () -> y.bearsIn(0, 36));
    }

    @Says(in = "25", sentence = "how many, 1 to 99")
    void outermostTonnes() {
        c.due("1 tonne", 0, () -> new IceConvoys().bearsIn(0, 1));
        c.due("99 tonnes", 33, () -> new IceConvoys().bearsIn(11, 99));
        c.due("99 tonnes now", 0, () -> withMostIce().bearsIn(11, 99));
    }

    @Says(in = "25", sentence = "Returns how many days, 0 if it would now.")
    void daysUntilItBears() {
        IceConvoys x = new IceConvoys();
        for (int days = 33; days > 0; days--) {
            c.due("days", days, () -> x.bearsIn(0, 99));
            x.pass(1);
        }
        c.due("now", 0, () -> x.bearsIn(0, 99));
        IceConvoys y = withoutIce();
        y.set(0, -40);
        c.due("from no ice, 6.0f in a day", 1, () -> y.bearsIn(0, 1));
        c.due("36 * 0.04f is less than 2", 2, () -> y.bearsIn(0, 2));
        IceConvoys z = new IceConvoys();
        z.set(0, 10);
        c.due("now, though it melts", 0, () -> z.bearsIn(0, 36));
    }

    @Says(in = "25", sentence = "Throws `IndexOutOfBoundsException` if there is no such mile")
    void bearsAheadOfNoMile() {
        for (int mile : NO_MILES) {
            dueThrow("no mile " + mile, INDEX, Edges::busy, x -> x.bearsIn(mile, 1));
            dueThrow("no mile " + mile + " and no tonnes", INDEX, Edges::busy, x -> x.bearsIn(mile, 0));
        }
    }

    @Says(in = "25", sentence = "Throws `IllegalArgumentException` if the number is out of range")
    void tonnesOutOfRange() {
        for (int tonnes : new int[] {0, 100, -1, Integer.MIN_VALUE, Integer.MAX_VALUE}) {
            dueThrow("tonnes " + tonnes, ARGUMENT, Edges::busy, x -> x.bearsIn(0, tonnes));
            dueThrow("tonnes " + tonnes + " without ice", ARGUMENT, Edges::withoutIce, x -> x.bearsIn(0, tonnes));
        }
    }

    @Says(in = "25", sentence = "Throws `NoSuchElementException` if it would not within 90 days")
    void notWithin90Days() {
        IceConvoys x = new IceConvoys();
        x.set(0, -6);
        c.due("87 tonnes on the 90th day", 90, () -> x.bearsIn(0, 87));
        dueThrow("88 tonnes on the 91st day", NONE, DaysEdges::atMinus6, y -> y.bearsIn(0, 88));
        x.pass(1);
        c.due("88 tonnes a day later", 90, () -> x.bearsIn(0, 88));
        dueThrow("never at 0 degrees", NONE, DaysEdges::atZero, y -> y.bearsIn(0, 37));
        dueThrow("never without ice", NONE, Edges::withoutIce, y -> y.bearsIn(11, 1));
    }

    private static IceConvoys atMinus6() {
        IceConvoys x = new IceConvoys();
        x.set(0, -6);
        return x;
    }

    private static IceConvoys atZero() {
        IceConvoys x = new IceConvoys();
        x.set(0, 0);
        return x;
    }

    @Says(in = "26", sentence = "Lets days go by.")
    void daysGoBy() {
        IceConvoys x = new IceConvoys();
        x.pass(30);
        c.due("the day", 30, () -> x.account(0));
        for (int mile = 0; mile < 12; mile++) {
            int m = mile;
            c.due("the ice", grown(30.0f, 20, 30), () -> x.ice(m));
        }
        IceConvoys y = new IceConvoys();
        for (int k = 0; k < 30; k++) {
            y.pass(1);
        }
        dueNoDifference("30 times a day", Look.atRoad(x), Look.atRoad(y));
        IceConvoys z = busy();
        int at4 = z.at(4);
        z.pass(30);
        c.due("trucks stay where they are", at4, () -> z.at(4));
    }

    @Says(in = "26", sentence = "how many, 1 to 30")
    void outermostDays() {
        IceConvoys x = new IceConvoys();
        c.due("1 day", 0, () -> x.pass(1));
        c.due("30 days", 0, () -> x.pass(30));
        c.due("the day", 31, () -> x.account(0));
    }

    @Says(in = "26", sentence = "Returns how many drills that were good are not good any more.")
    void drillsNotGoodAnyMore() {
        c.due("none of none", 0, () -> new IceConvoys().pass(30));
        c.due("none on the last good day", 0, () -> thick().pass(7));
        c.due("all a day later", 12, () -> thick().pass(8));
        IceConvoys x = new IceConvoys();
        x.drill(0);
        x.pass(1);
        x.drill(11);
        c.due("the earlier one", 1, () -> x.pass(7));
        c.due("the later one", 1, () -> x.pass(1));
        c.due("none was good", 0, () -> x.pass(30));
        IceConvoys y = thick();
        y.set(2, 1);
        c.due("by the setting as it is now", 12, () -> y.pass(2));
        y.set(2, 14);
        c.due("good again, and not any more", 12, () -> y.pass(13));
    }

    @Says(in = "26", sentence = "Throws `IllegalArgumentException` if the number is out of range")
    void daysOutOfRange() {
        for (int days : new int[] {0, 31, -1, Integer.MIN_VALUE, Integer.MAX_VALUE}) {
            dueThrow("days " + days, ARGUMENT, Edges::busy, x -> x.pass(days));
        }
    }
}
