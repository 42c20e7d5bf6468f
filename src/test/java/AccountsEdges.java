/** The sentences of the promises 31 to 37: accounts, undo and the snapshot. */
final class AccountsEdges extends Edges {
    @Says(in = "31", sentence = "0 for the day")
    void account0() {
        dueAccount(0, 0, IceConvoys::new);
        dueAccount(0, 360, Edges::withMostIce);
        dueAccount(0, 32, Edges::busy);
    }

    /** The question leaves all as it is. */
    private void dueAccount(int what, int answer, Making making) {
        dueOnlyAnswer("account " + what, answer, making, x -> x.account(what));
    }

    @Says(in = "31", sentence = "1 for the trucks in rows")
    void account1() {
        dueAccount(1, 0, IceConvoys::new);
        dueAccount(1, 10, Edges::withFullRows);
        dueAccount(1, 0, () -> withConvoy(1, 5));
        dueAccount(1, 2, Edges::busy);
    }

    @Says(in = "31", sentence = "2 for the convoys")
    void account2() {
        dueAccount(2, 0, IceConvoys::new);
        dueAccount(2, 1, () -> withConvoys(1));
        dueAccount(2, 4, () -> withConvoys(4));
        dueAccount(2, 1, () -> rolled(12, 1, 5));
    }

    @Says(in = "31", sentence = "3 for those that have started and are not done")
    void account3() {
        dueAccount(3, 0, () -> withConvoys(4));
        dueAccount(3, 0, () -> thickWith(1, 5));
        dueAccount(3, 1, () -> rolled(0, 1, 5));
        dueAccount(3, 1, () -> rolled(13, 1, 5, 5));
        dueAccount(3, 0, () -> rolled(14, 1, 5, 5));
        dueAccount(3, 2, Edges::busy);
        dueAccount(3, 4, AccountsEdges::withFourOnTheRoad);
    }

    private static IceConvoys withFourOnTheRoad() {
        IceConvoys x = thick();
        for (int convoy = 0; convoy < 4; convoy++) {
            addConvoy(x, 1, 5);
        }
        for (int convoy = 0; convoy < 4; convoy++) {
            x.start(convoy);
            roll(x, convoy, 11 - convoy);
        }
        return x;
    }

    @Says(in = "31", sentence = "4 for those that are done")
    void account4() {
        dueAccount(4, 0, () -> withConvoys(4));
        dueAccount(4, 0, () -> rolled(13, 1, 5, 5));
        dueAccount(4, 1, () -> rolled(14, 1, 5, 5));
        c.due("all 4", 4, () -> withFiveCracks().account(4));
    }

    @Says(in = "31", sentence = "5 for the trucks at miles")
    void account5() {
        dueAccount(5, 0, () -> thickWith(1, 5, 5, 5, 5));
        dueAccount(5, 1, () -> rolled(0, 1, 5, 5, 5, 5));
        dueAccount(5, 4, () -> rolled(11, 1, 5, 5, 5, 5));
        dueAccount(5, 3, () -> rolled(12, 1, 5, 5, 5, 5));
        dueAccount(5, 1, () -> rolled(17, 1, 5, 5, 5, 5));
        dueAccount(5, 0, () -> rolled(18, 1, 5, 5, 5, 5));
        dueAccount(5, 4, AccountsEdges::withFourOnTheRoad);
        dueAccount(5, 3, Edges::busy);
    }

    @Says(in = "31", sentence = "6 for the trucks that have arrived")
    void account6() {
        dueAccount(6, 0, () -> rolled(11, 1, 5, 5, 5, 5));
        dueAccount(6, 1, () -> rolled(12, 1, 5, 5, 5, 5));
        dueAccount(6, 1, () -> rolled(13, 1, 5, 5, 5, 5));
        dueAccount(6, 4, () -> rolled(18, 1, 5, 5, 5, 5));
        c.due("all 16", 16, () -> withFiveCracks().account(6));
        c.due("with an undo", 3, () -> undone(rolled(18, 1, 5, 5, 5, 5)).account(6));
    }

    private static IceConvoys undone(IceConvoys x) {
        x.undo();
        return x;
    }

    @Says(in = "31", sentence = "7 for the tonnes that were delivered")
    void account7() {
        dueAccount(7, 0, () -> rolled(11, 1, 60, 7));
        dueAccount(7, 60, () -> rolled(12, 1, 60, 7));
        dueAccount(7, 60, () -> rolled(13, 1, 60, 7));
        dueAccount(7, 67, () -> rolled(14, 1, 60, 7));
        c.due("of all 16", 960, () -> withFiveCracks().account(7));
        c.due("with an undo", 60, () -> undone(rolled(14, 1, 60, 7)).account(7));
    }

    @Says(in = "31", sentence = "8 for the tonnes in rows and convoys that were not")
    void account8() {
        dueAccount(8, 0, IceConvoys::new);
        dueAccount(8, 270, Edges::withFullRows);
        dueAccount(8, 67, () -> rolled(11, 1, 60, 7));
        dueAccount(8, 7, () -> rolled(12, 1, 60, 7));
        dueAccount(8, 0, () -> rolled(14, 1, 60, 7));
        dueAccount(8, 223, Edges::busy);
    }

    @Says(in = "31", sentence = "9 for the cracks of all miles")
    void account9() {
        dueAccount(9, 0, IceConvoys::new);
        dueAccount(9, 0, () -> rolled(3, 1, 60, 60, 60));
        dueAccount(9, 1, () -> rolled(4, 1, 60, 60, 60));
        dueAccount(9, 12, () -> rolled(16, 1, 60, 60, 60));
        c.due("the most", 60, () -> withFiveCracks().account(9));
    }

    @Says(in = "31", sentence = "10 for the miles whose drills are good")
    void account10() {
        dueAccount(10, 0, IceConvoys::new);
        dueAccount(10, 12, Edges::thick);
        dueAccount(10, 12, () -> passed(thick(), 7));
        dueAccount(10, 0, () -> passed(thick(), 8));
        dueAccount(10, 1, () -> passed(thick(), 8, 11));
    }

    private static IceConvoys passed(IceConvoys x, int days, int... drills) {
        x.pass(days);
        for (int mile : drills) {
            x.drill(mile);
        }
        return x;
    }

    @Says(in = "31", sentence = "11 for the drills so far")
    void account11() {
        dueAccount(11, 0, IceConvoys::new);
        dueAccount(11, 12, () -> passed(thick(), 30));
        dueAccount(11, 14, () -> passed(thick(), 30, 5, 5));
        c.due("with an undo", 13, () -> undone(passed(thick(), 30, 5, 5)).account(11));
        IceConvoys x = new IceConvoys();
        c.due("a mile that is not there", INDEX, () -> x.drill(12));
        c.due("is no drill", 0, () -> x.account(11));
        c.due("by orders", 2, () -> read(x, "d3;d3"));
        c.due("both", 2, () -> x.account(11));
    }

    @Says(in = "31", sentence = "12 for the tonnes of all trucks that came so far")
    void account12() {
        dueAccount(12, 0, IceConvoys::new);
        dueAccount(12, 270, Edges::withFullRows);
        dueAccount(12, 67, () -> rolled(14, 1, 60, 7));
        c.due("a refused one did not come", 270, () -> afterRefusal(withFullRows()).account(12));
        c.due("with an undo", 236, () -> undone(withFullRows()).account(12));
    }

    private IceConvoys afterRefusal(IceConvoys x) {
        c.due("refused", REFUSED, () -> x.truck(0, 60, 2, 0));
        return x;
    }

    @Says(in = "31", sentence = "13 for the characters in the input")
    void account13() {
        dueAccount(13, 0, IceConvoys::new);
        dueAccount(13, 2, Edges::busy);
        IceConvoys x = new IceConvoys();
        type(x, ";".repeat(60));
        c.due("full", 60, () -> x.account(13));
        c.due("full", STATE, () -> x.append(';'));
        c.due("not more", 60, () -> x.account(13));
        c.due("read", ARGUMENT, x::read);
        c.due("empty", 0, () -> x.account(13));
    }

    @Says(in = "31", sentence = "14 for the changes that can be undone")
    void account14() {
        IceConvoys x = new IceConvoys();
        for (int changes = 0; changes <= 10; changes++) {
            int n = Math.min(changes, 8);
            c.due("at most 8", n, () -> x.account(14));
            x.pass(1);
        }
        for (int left = 7; left >= 0; left--) {
            int n = left;
            x.undo();
            c.due("left", n, () -> x.account(14));
        }
        dueAccount(14, 8, Edges::busy);
    }

    @Says(in = "31", sentence = "Throws `IllegalArgumentException` if what is not from 0 to 14")
    void noSuchAccount() {
        for (int what : new int[] {-1, 15, Integer.MIN_VALUE, Integer.MAX_VALUE}) {
            dueThrow("no account " + what, ARGUMENT, Edges::busy, x -> x.account(what));
        }
    }

    @Says(in = "32", sentence = "the tonnes that came were delivered or are in rows and convoys")
    void isWellByTonnes() {
        dueOnlyAnswer("a new road", true, IceConvoys::new, x -> x.isWell());
        dueOnlyAnswer("of everything", true, Edges::busy, x -> x.isWell());
        dueOnlyAnswer("in full rows", true, Edges::withFullRows, x -> x.isWell());
        for (int times = 0; times <= 14; times++) {
            IceConvoys x = rolled(times, 1, 60, 7);
            x.truck(1, 33, 2, 1);
            c.due("after " + times + " rolls", true, x::isWell);
        }
        for (int came : new int[] {99, 101}) {
            IceConvoys x = rolled(12, 1, 60, 7);
            x.truck(1, 33, 2, 1);
            Inside.set(x, "now.tonnesCame", came);
            c.due("100 tonnes, but " + came + " came", false, x::isWell);
        }
        for (int delivered : new int[] {59, 61}) {
            IceConvoys x = rolled(12, 1, 60, 7);
            Inside.set(x, "now.tonnesDelivered", delivered);
            c.due("60 tonnes arrived, but " + delivered + " were delivered", false, x::isWell);
        }
    }

    @Says(in = "32", sentence = "no two trucks are at one mile")
    void isWellByMiles() {
        for (int lead = 1; lead <= 11; lead++) {
            IceConvoys x = withOneBehind(lead);
            c.due("side by side", true, x::isWell);
            Inside.set(x, "now.convoys[1].lead", lead);
            c.due("both at the mile " + lead, false, x::isWell);
        }
        IceConvoys x = withOneBehind(1);
        Inside.set(x, "now.convoys[0].lead", 0);
        c.due("both at the mile 0", false, x::isWell);
        IceConvoys y = withOneBehind(11);
        y.roll(0);
        y.roll(1);
        y.roll(1);
        c.due("both at 12, off the road", true, y::isWell);
        IceConvoys z = thickWith(1, 5, 5);
        addConvoy(z, 1, 5, 5);
        z.start(0);
        z.roll(0);
        z.start(1);
        Inside.set(z, "now.convoys[0].lead", 4);
        Inside.set(z, "now.convoys[1].lead", 2);
        c.due("the second of one and the first of the other", false, z::isWell);
        Inside.set(z, "now.convoys[1].lead", 1);
        c.due("at 4, 2, 1 and -1", true, z::isWell);
        Inside.set(z, "now.convoys[1].lead", 6);
        c.due("one behind the other by their gap: 4, 2, 6 and 4", false, z::isWell);
        Inside.set(z, "now.convoys[1].lead", 8);
        c.due("at 4, 2, 8 and 6", true, z::isWell);
        Inside.set(z, "now.convoys[0].lead", 1);
        Inside.set(z, "now.convoys[1].lead", 0);
        c.due("both second trucks before the road", true, z::isWell);
    }

    private static IceConvoys withOneBehind(int lead) {
        IceConvoys x = rolled(lead, 1, 5);
        addConvoy(x, 1, 5);
        x.start(1);
        roll(x, 1, lead - 1);
        return x;
    }

    @Says(in = "32", sentence = "and all ice is from 0.0f to 200.0f.")
    void isWellByIce() {
        c.due("no ice", true, () -> withoutIce().isWell());
        c.due("the most ice", true, () -> withMostIce().isWell());
        for (int mile = 0; mile < 12; mile++) {
            String path = "now.miles[" + mile + "].thickness";
            dueWellWith(path, 0.0f, true);
            dueWellWith(path, -Float.MIN_VALUE, false);
            dueWellWith(path, 200.0f, true);
            dueWellWith(path, Math.nextUp(200.0f), false);
        }
    }

    private void dueWellWith(String path, float ice, boolean isWell) {
        IceConvoys x = new IceConvoys();
        Inside.set(x, path, ice);
        c.due(path + " of " + ice, isWell, x::isWell);
    }

    @Says(in = "33", sentence = "their sum, by numbers, as doubles, beginning with 0.0, divided by 12.0.")
    void meanOfAllMiles() {
        dueOnlyAnswer("30.0", Double.doubleToLongBits(30.0), IceConvoys::new, x -> x.meanBits());
        IceConvoys x = new IceConvoys();
        double sum = 0.0;
        for (int mile = 0; mile < 12; mile++) {
            // With so small ones behind the thick ones a sum in another order has other last bits.
            float ice = mile < 2 ? 199.99f : 3.0e-15f * (float) mile;
            Inside.set(x, "now.miles[" + mile + "].thickness", ice);
            sum += ice;
        }
        double mean = sum / 12.0;
        c.due("by numbers", Double.doubleToLongBits(mean), x::meanBits);
    }

    @Says(in = "33", sentence = "Returns the bits, as by Double.doubleToLongBits.")
    void bitsOfTheMean() {
        c.due("no ice", 0L, () -> withoutIce().meanBits());
        c.due("the most ice", Double.doubleToLongBits(200.0), () -> withMostIce().meanBits());
        IceConvoys thin = withoutIce();
        thin.set(0, -1);
        thin.pass(1);
        c.due("less than 1.0", Double.doubleToLongBits(0.15f * 12.0 / 12.0), thin::meanBits);
        for (int temperature = -40; temperature <= 10; temperature++) {
            IceConvoys x = new IceConvoys();
            x.set(0, temperature);
            x.pass(7);
            double sum = 0.0;
            for (int mile = 0; mile < 12; mile++) {
                sum += (double) x.ice(mile);
            }
            double mean = sum / 12.0;
            c.due("at " + temperature, Double.doubleToLongBits(mean), x::meanBits);
        }
    }

    @Says(in = "34", sentence = "Returns the share of the tonnes that were delivered of all that came.")
    void shareFromNoneToAll() {
        dueOnlyAnswer("none was delivered", 0.0f, Edges::withFullRows, x -> x.share());
        dueOnlyAnswer("none yet", 0.0f, () -> rolled(11, 1, 60, 7), x -> x.share());
        dueOnlyAnswer("a part", 60.0f / 67.0f, () -> rolled(12, 1, 60, 7), x -> x.share());
        dueOnlyAnswer("all", 1.0f, () -> rolled(14, 1, 60, 7), x -> x.share());
    }

    @Says(in = "34", sentence = "Returns the one number divided by the other one, both as floats.")
    void shareAsFloats() {
        for (int weight = 5; weight <= 60; weight++) {
            IceConvoys x = rolled(12, 1, weight);
            x.truck(0, 43, 2, 0);
            c.due("share", (float) weight / (float) (weight + 43), x::share);
        }
    }

    @Says(in = "34", sentence = "Throws `ArithmeticException` if none came")
    void shareOfNone() {
        dueThrow("none came", ArithmeticException.class, IceConvoys::new, x -> x.share());
        dueThrow("convoys alone", ArithmeticException.class, () -> withConvoys(4), x -> x.share());
        IceConvoys x = new IceConvoys();
        x.save();
        x.truck(0, 5, 2, 0);
        c.due("5 tonnes came", 0.0f, x::share);
        x.undo();
        c.due("its coming was undone", ArithmeticException.class, x::share);
        x.truck(0, 5, 2, 0);
        x.restore();
        c.due("as in the snapshot", ArithmeticException.class, x::share);
        c.due("refused", REFUSED, () -> x.truck(0, 5, 2, 1));
        c.due("a refused one did not come", ArithmeticException.class, x::share);
    }

    @Says(in = "35", sentence = "Undoes the latest change.")
    void undoesTheLatestAlone() {
        IceConvoys x = new IceConvoys();
        x.pass(1);
        x.set(1, 50);
        x.drill(0);
        x.undo();
        c.due("the drill", NONE, () -> x.drilled(0));
        c.due("not the setting", 50, () -> x.setting(1));
        x.undo();
        c.due("the setting", 100, () -> x.setting(1));
        c.due("not the day", 1, () -> x.account(0));
        x.undo();
        c.due("the day", 0, () -> x.account(0));
        dueNoDifference("all undone", Look.atAll(new IceConvoys()), Look.atAll(x));
        IceConvoys y = new IceConvoys();
        y.drill(0);
        y.undo();
        y.drill(1);
        y.undo();
        c.due("a change after an undo", NONE, () -> y.drilled(1));
        c.due("the one undone before stays so", NONE, () -> y.drilled(0));
    }

    @Says(in = "35", sentence = "Returns the number of changes that can still be undone.")
    void changesThatAreLeft() {
        for (int changes = 1; changes <= 10; changes++) {
            IceConvoys x = new IceConvoys();
            for (int k = 0; k < changes; k++) {
                x.pass(1);
            }
            for (int left = Math.min(changes, 8) - 1; left >= 0; left--) {
                c.due("left of " + changes, left, x::undo);
            }
        }
    }

    @Says(in = "35", sentence = "Throws `IllegalStateException` if no change can be undone")
    void nothingToUndo() {
        dueThrow("a new road", STATE, IceConvoys::new, x -> x.undo());
        dueThrow("its one change was undone", STATE, () -> undone(withConvoys(1)), x -> x.undo());
        dueThrow("after a restore", STATE, AccountsEdges::restored, x -> x.undo());
        IceConvoys x = withMostIce();
        for (int k = 0; k < 8; k++) {
            x.undo();
        }
        c.due("a ninth", STATE, x::undo);
        c.due("the day stays", 120, () -> x.account(0));
    }

    private static IceConvoys restored() {
        IceConvoys x = busy();
        x.restore();
        return x;
    }

    @Says(in = "36", sentence = "Takes a snapshot of what changes can change, in place of an earlier one.")
    void inPlaceOfAnEarlierOne() {
        IceConvoys x = new IceConvoys();
        x.save();
        x.pass(1);
        x.save();
        x.pass(1);
        c.due("two changes, none by save", 2, () -> x.account(14));
        x.restore();
        c.due("as in the later one", 1, () -> x.account(0));
        IceConvoys y = busy();
        y.save();
        c.due("the history stays", 8, () -> y.account(14));
        c.due("undo behind the snapshot", 7, y::undo);
        y.restore();
        dueNoDifference("all that changes can change", Look.atRoad(busy()), Look.atRoad(y));
    }

    @Says(in = "36", sentence = "Returns the convoys.")
    void convoysSaved() {
        for (int count = 0; count <= 4; count++) {
            int n = count;
            c.due("convoys", n, () -> withConvoys(n).save());
        }
        c.due("not those of the earlier snapshot", 0, () -> withoutItsConvoy().save());
    }

    private static IceConvoys withoutItsConvoy() {
        IceConvoys x = withConvoys(1);
        x.save();
        x.undo();
        return x;
    }

    @Says(in = "37", sentence = "Makes everything that changes can change as it is in the snapshot, which stays.")
    void asInTheSnapshotAgainAndAgain() {
        IceConvoys x = busy();
        x.save();
        for (int time = 1; time <= 3; time++) {
            x.set(0, -40);
            x.set(1, 100);
            x.set(2, 14);
            x.pass(30);
            drillAll(x);
            x.roll(0);
            x.join(3, 0, 0);
            x.truck(0, 60, 2, 0);
            x.restore();
        }
        dueNoDifference("as in the snapshot", Look.atRoad(busy()), Look.atRoad(x));
        IceConvoys y = busy();
        y.restore();
        IceConvoys z = busy();
        z.restore();
        z.pass(1);
        z.undo();
        dueNoDifference("no less after an undo", Look.atRoad(y), Look.atRoad(z));
        IceConvoys w = withFiveCracks();
        w.save();
        w.set(0, -40);
        w.pass(30);
        w.restore();
        c.due("cracks again", 60, () -> w.account(9));
    }

    @Says(in = "37", sentence = "Returns the convoys.")
    void convoysRestored() {
        for (int count = 0; count <= 4; count++) {
            int n = count;
            IceConvoys x = withConvoys(n);
            x.save();
            if (n < 4) {
                x.convoy(1);
            }
            c.due("convoys", n, x::restore);
            c.due("as told", n, () -> x.account(2));
        }
    }

    @Says(in = "37", sentence = "Throws `IllegalStateException` if there is no snapshot")
    void noSnapshot() {
        dueThrow("a new road", STATE, IceConvoys::new, x -> x.restore());
        dueThrow("changes alone", STATE, Edges::withFullRows, x -> x.restore());
        IceConvoys x = new IceConvoys();
        c.due("none", STATE, x::restore);
        x.save();
        c.due("a snapshot", 0, x::restore);
        c.due("it stays", 0, x::restore);
        x.pass(1);
        x.undo();
        c.due("an undo leaves it", 0, x::restore);
    }
}
