/** The sentences of the promises 11 to 21: trucks and convoys. */
final class TrucksEdges extends Edges {
    private static final int[] NO_ROWS = {-1, 2, Integer.MIN_VALUE, Integer.MAX_VALUE};
    private static final int[] NO_PLACES = {-1, 5, Integer.MIN_VALUE, Integer.MAX_VALUE};
    private static final int[] NO_CONVOYS = {-1, 4, Integer.MIN_VALUE, Integer.MAX_VALUE};

    @Says(in = "11", sentence = "Lets a truck come into a row.")
    void aTruckInItsRow() {
        IceConvoys x = new IceConvoys();
        x.truck(1, 60, 6, 1);
        c.due("its weight", 60, () -> x.inRow(1, 0, 0));
        c.due("its axles", 6, () -> x.inRow(1, 0, 1));
        c.due("not in the other row", NONE, () -> x.inRow(0, 0, 0));
        c.due("one truck", 1, () -> x.account(1));
        c.due("its tonnes came", 60, () -> x.account(12));
    }

    @Says(in = "11", sentence = "Returns its place.")
    void places() {
        for (int row = 0; row <= 1; row++) {
            int r = row;
            IceConvoys x = new IceConvoys();
            for (int place = 0; place < 5; place++) {
                c.due("the place", place, () -> x.truck(r, 5, 2, r));
            }
            x.convoy(1);
            x.join(0, r, 4);
            x.join(0, r, 1);
            c.due("the lowest that is free", 1, () -> x.truck(r, 5, 2, r));
            c.due("the last", 4, () -> x.truck(r, 5, 2, r));
            x.undo();
            c.due("the last again", 4, () -> x.truck(r, 5, 2, r));
        }
    }

    @Says(in = "11", sentence = "Throws `IndexOutOfBoundsException` if there is no such row")
    void truckInNoRow() {
        for (int row : NO_ROWS) {
            dueThrow("no row " + row, INDEX, Edges::busy, x -> x.truck(0, 5, 2, row));
            dueThrow("no row " + row + " and no kind", INDEX, Edges::busy, x -> x.truck(row, 5, 2, row));
        }
    }

    @Says(in = "11", sentence = "Throws `IllegalArgumentException` if the kind, the weight or the number of axles is out of range")
    void truckOutOfRange() {
        for (int kind : NO_ROWS) {
            dueThrow("kind " + kind, ARGUMENT, Edges::busy, x -> x.truck(kind, 5, 2, 0));
        }
        for (int weight : new int[] {4, 61, 0, -5, Integer.MIN_VALUE, Integer.MAX_VALUE}) {
            dueThrow("weight " + weight, ARGUMENT, Edges::busy, x -> x.truck(1, weight, 2, 1));
        }
        for (int axles : new int[] {1, 7, 0, -2, Integer.MIN_VALUE, Integer.MAX_VALUE}) {
            dueThrow("axles " + axles, ARGUMENT, Edges::busy, x -> x.truck(0, 60, axles, 0));
        }
        dueThrow("for a full row", ARGUMENT, Edges::withFullRows, x -> x.truck(0, 61, 2, 0));
    }

    @Says(in = "11", sentence = "Throws `UnsupportedOperationException` if it is refused for reason 2 or 3; the reason is kept for refusal")
    void refusedTrucks() {
        for (int row = 0; row <= 1; row++) {
            int r = row;
            dueRefused("full", 2, r, Edges::withFullRows, x -> x.truck(r, 5, 2, r));
            dueRefused("full and for the other kind", 2, r, Edges::withFullRows, x -> x.truck(1 - r, 5, 2, r));
            dueRefused("for the other kind", 3, r, IceConvoys::new, x -> x.truck(1 - r, 5, 2, r));
            dueRefused("for the other kind, one place free", 3, r, () -> withFourInRows(), x -> x.truck(1 - r, 5, 2, r));
            c.due("its own kind, one place free", 4, () -> withFourInRows().truck(r, 5, 2, r));
        }
    }

    private static IceConvoys withFourInRows() {
        IceConvoys x = withFullRows();
        x.convoy(1);
        x.join(0, 0, 4);
        x.join(0, 1, 4);
        return x;
    }

    @Says(in = "12", sentence = "0 for its weight, 1 for its axles")
    void numbersInARow() {
        for (int row = 0; row <= 1; row++) {
            int r = row;
            for (int place : new int[] {0, 4}) {
                dueOnlyAnswer("weight", 20 + 10 * r + place, Edges::withFullRows, x -> x.inRow(r, place, 0));
                dueOnlyAnswer("axles", 2 + r, Edges::withFullRows, x -> x.inRow(r, place, 1));
            }
        }
    }

    @Says(in = "12", sentence = "Throws `IndexOutOfBoundsException` if there is no such row or place")
    void noSuchPlaceInARow() {
        for (int row : NO_ROWS) {
            dueThrow("no row " + row, INDEX, Edges::withFullRows, x -> x.inRow(row, 0, 0));
            dueThrow("no row " + row + " and no number", INDEX, Edges::withFullRows, x -> x.inRow(row, 0, 2));
        }
        for (int place : NO_PLACES) {
            dueThrow("no place " + place, INDEX, Edges::withFullRows, x -> x.inRow(0, place, 0));
            dueThrow("no place " + place, INDEX, IceConvoys::new, x -> x.inRow(1, place, 2));
        }
    }

    @Says(in = "12", sentence = "Throws `NoSuchElementException` if there is no truck")
    void noTruckAtThePlace() {
        for (int place = 0; place < 5; place++) {
            int p = place;
            dueThrow("an empty row", NONE, IceConvoys::new, x -> x.inRow(0, p, 0));
            dueThrow("an empty row and no number", NONE, IceConvoys::new, x -> x.inRow(1, p, 2));
        }
        dueThrow("it has joined", NONE, TrucksEdges::withFourInRows, x -> x.inRow(1, 4, 1));
        c.due("the one beside it has not", 33, () -> withFourInRows().inRow(1, 3, 0));
        IceConvoys y = withFullRows();
        y.undo();
        c.due("its coming was undone", NONE, () -> y.inRow(1, 4, 0));
    }

    @Says(in = "12", sentence = "Throws `IllegalArgumentException` if what is not 0 or 1")
    void noSuchNumberInARow() {
        for (int what : NO_ROWS) {
            dueThrow("no number " + what, ARGUMENT, Edges::withFullRows, x -> x.inRow(0, 4, what));
        }
    }

    @Says(in = "13", sentence = "Adds a convoy.")
    void aConvoyIsAdded() {
        for (int gap = 1; gap <= 3; gap++) {
            int g = gap;
            IceConvoys x = new IceConvoys();
            x.convoy(g);
            int[] numbers = {g, 0, -1, 0, 0, 0};
            for (int what = 0; what < 6; what++) {
                int w = what;
                c.due("number " + w, numbers[w], () -> x.convoyOf(0, w));
            }
            c.due("no trucks", INDEX, () -> x.truckOf(0, 0, 0));
            c.due("one convoy", 1, () -> x.account(2));
        }
    }

    @Says(in = "13", sentence = "Returns its number.")
    void numbersOfConvoys() {
        IceConvoys x = new IceConvoys();
        for (int number = 0; number < 4; number++) {
            c.due("its number", number, () -> x.convoy(1));
        }
        x.undo();
        c.due("3 again", 3, () -> x.convoy(3));
    }

    @Says(in = "13", sentence = "Throws `IllegalArgumentException` if the gap is out of range")
    void gapOutOfRange() {
        for (int gap : new int[] {0, 4, -1, Integer.MIN_VALUE, Integer.MAX_VALUE}) {
            dueThrow("gap " + gap, ARGUMENT, IceConvoys::new, x -> x.convoy(gap));
            dueThrow("gap " + gap + " of a fifth", ARGUMENT, Edges::busy, x -> x.convoy(gap));
        }
    }

    @Says(in = "13", sentence = "Throws `UnsupportedOperationException` if it is refused for reason 1; the reason is kept for refusal")
    void refusedConvoys() {
        dueRefused("a fifth", 1, 4, () -> withConvoys(4), x -> x.convoy(1));
        dueRefused("a fifth, though one is done", 1, 4, TrucksEdges::withFourAndOneDone, x -> x.convoy(3));
        c.due("the fourth", 3, () -> withConvoys(3).convoy(1));
    }

    private static IceConvoys withFourAndOneDone() {
        IceConvoys x = rolled(12, 1, 5);
        for (int convoy = 1; convoy < 4; convoy++) {
            x.convoy(1);
        }
        return x;
    }

    @Says(in = "14", sentence = "Lets a truck of a row join a convoy; its place in the row is free then.")
    void itsPlaceIsFreeThen() {
        IceConvoys x = withFourInRows();
        c.due("the place 4 of the row 0", NONE, () -> x.inRow(0, 4, 0));
        c.due("the place 4 of the row 1", NONE, () -> x.inRow(1, 4, 0));
        c.due("8 are in rows", 8, () -> x.account(1));
        c.due("the flat one in the convoy", 24, () -> x.truckOf(0, 0, 1));
        c.due("the tank in the convoy", 34, () -> x.truckOf(0, 1, 1));
        x.join(0, 0, 0);
        c.due("the place 0 of the row 0", 0, () -> x.truck(0, 50, 2, 0));
        c.due("a new truck there", 50, () -> x.inRow(0, 0, 0));
        c.due("the one that joined is as it was", 20, () -> x.truckOf(0, 2, 1));
    }

    @Says(in = "14", sentence = "Returns how many trucks the convoy has then.")
    void howManyTrucksThen() {
        IceConvoys x = withFullRows();
        x.convoy(1);
        x.convoy(2);
        for (int place = 0; place < 4; place++) {
            int p = place;
            c.due("trucks", p + 1, () -> x.join(0, 0, p));
            c.due("trucks of the other", p + 1, () -> x.join(1, 1, p));
        }
        x.undo();
        c.due("the fourth again", 4, () -> x.join(1, 1, 4));
    }

    @Says(in = "14", sentence = "Throws `IndexOutOfBoundsException` if there is no such convoy, row or place")
    void joinOfNoSuch() {
        for (int convoy : NO_CONVOYS) {
            dueThrow("no convoy " + convoy, INDEX, TrucksEdges::withFourInRows, x -> x.join(convoy, 0, 0));
        }
        dueThrow("no convoy 1 yet", INDEX, TrucksEdges::withFourInRows, x -> x.join(1, 0, 0));
        dueThrow("no convoy and no truck", INDEX, IceConvoys::new, x -> x.join(0, 0, 0));
        for (int row : NO_ROWS) {
            dueThrow("no row " + row, INDEX, TrucksEdges::withFourInRows, x -> x.join(0, row, 0));
        }
        for (int place : NO_PLACES) {
            dueThrow("no place " + place, INDEX, TrucksEdges::withFourInRows, x -> x.join(0, 0, place));
            dueThrow("no place " + place, INDEX, Edges::busy, x -> x.join(0, 1, place));
        }
    }

    @Says(in = "14", sentence = "Throws `NoSuchElementException` if there is no truck at the place")
    void joinOfNoTruck() {
        dueThrow("it has joined before", NONE, TrucksEdges::withFourInRows, x -> x.join(0, 0, 4));
        dueThrow("an empty row", NONE, () -> withConvoys(1), x -> x.join(0, 1, 0));
        dueThrow("the last place of an empty row", NONE, () -> withConvoys(1), x -> x.join(0, 0, 4));
        dueThrow("no truck for a convoy that has started", NONE, Edges::busy, x -> x.join(0, 0, 4));
    }

    @Says(in = "14", sentence = "Throws `UnsupportedOperationException` if it is refused for reason 4 or 1; the reason is kept for refusal")
    void refusedJoins() {
        dueRefused("started", 4, 0, Edges::busy, x -> x.join(0, 0, 0));
        dueRefused("done", 4, 0, TrucksEdges::withOneDoneAndATruck, x -> x.join(0, 1, 0));
        dueRefused("4 trucks", 1, 4, () -> withFour(false), x -> x.join(0, 0, 0));
        dueRefused("4 trucks and started", 4, 0, () -> withFour(true), x -> x.join(0, 0, 0));
    }

    private static IceConvoys withOneDoneAndATruck() {
        IceConvoys x = rolled(12, 1, 5);
        x.truck(1, 5, 2, 1);
        return x;
    }

    private static IceConvoys withFour(boolean hasStarted) {
        IceConvoys x = thickWith(1, 5, 5, 5, 5);
        if (hasStarted) {
            x.start(0);
        }
        x.truck(0, 5, 2, 0);
        return x;
    }

    @Says(in = "15", sentence = "Starts a convoy.")
    void theStart() {
        IceConvoys x = thickWith(1, 60, 5);
        x.start(0);
        c.due("its lead", 0, () -> x.convoyOf(0, 2));
        c.due("its first truck", 0, () -> x.at(0));
        c.due("its second truck", -2, () -> x.truckOf(0, 1, 3));
        c.due("strain", 7, () -> x.mileOf(0, 1));
        c.due("how often trucks came", 1, () -> x.mileOf(0, 4));
        c.due("no strain ahead", 0, () -> x.mileOf(1, 1));
    }

    @Says(in = "15", sentence = "Returns how many trucks it has.")
    void trucksOfTheStart() {
        c.due("one", 1, () -> thickWith(1, 5).start(0));
        c.due("four, not those at miles", 4, () -> thickWith(3, 5, 5, 5, 5).start(0));
    }

    @Says(in = "15", sentence = "Throws `IndexOutOfBoundsException` if there is no such convoy")
    void startOfNoConvoy() {
        for (int convoy : NO_CONVOYS) {
            dueThrow("no convoy " + convoy, INDEX, Edges::busy, x -> x.start(convoy));
        }
        dueThrow("none at all", INDEX, IceConvoys::new, x -> x.start(0));
        dueThrow("not yet", INDEX, () -> withConvoys(2), x -> x.start(2));
    }

    @Says(in = "15", sentence = "Throws `UnsupportedOperationException` if it is refused for reason 4, 5, 7 or 8; the reason is kept for refusal")
    void refusedStarts() {
        dueRefused("started", 4, 1, Edges::busy, x -> x.start(1));
        dueRefused("done", 4, 0, () -> rolled(12, 1, 5), x -> x.start(0));
        dueRefused("no trucks", 5, 3, Edges::busy, x -> x.start(3));
        dueRefused("a truck at the mile 0", 7, 0, Edges::busy, x -> x.start(2));
        dueRefused("never drilled", 8, 0, () -> withConvoy(1, 5), x -> x.start(0));
        dueRefused("too heavy by a tonne", 8, 0, () -> withDrilledMile0(37), x -> x.start(0));
        c.due("just borne", 1, () -> withDrilledMile0(36).start(0));
        dueRefused("the drill is not good", 8, 0, () -> withOldDrill(8), x -> x.start(0));
        c.due("the drill is good", 1, () -> withOldDrill(7).start(0));
    }

    private static IceConvoys withDrilledMile0(int weight) {
        IceConvoys x = withConvoy(1, weight);
        x.drill(0);
        return x;
    }

    private static IceConvoys withOldDrill(int days) {
        IceConvoys x = withDrilledMile0(5);
        x.pass(days);
        return x;
    }

    @Says(in = "16", sentence = "Lets a convoy roll.")
    void fromTheFirstMileToTheLast() {
        IceConvoys x = rolled(0, 1, 60);
        for (int mile = 1; mile <= 11; mile++) {
            int m = mile;
            x.roll(0);
            c.due("at the mile", 0, () -> x.at(m));
            c.due("not at the mile behind", NONE, () -> x.at(m - 1));
            c.due("its strain", 7, () -> x.mileOf(m, 1));
        }
        x.roll(0);
        c.due("off the road", NONE, () -> x.at(11));
        c.due("delivered", 60, () -> x.account(7));
    }

    @Says(in = "16", sentence = "Returns how many of its trucks are at miles then.")
    void trucksAtMilesByEachRoll() {
        int[][] due = {
            {0, 1, 2, 2, 3, 3, 4, 4, 4, 4, 4, 4, 3, 3, 2, 2, 1, 1, 0},
            {0, 1, 1, 2, 2, 2, 3, 3, 3, 4, 4, 4, 3, 3, 3, 2, 2, 2, 1, 1, 1, 0},
            {0, 1, 1, 1, 2, 2, 2, 2, 3, 3, 3, 3, 3, 3, 3, 3, 2, 2, 2, 2, 1, 1, 1, 1, 0}};
        for (int gap = 1; gap <= 3; gap++) {
            int[] counts = due[gap - 1];
            IceConvoys x = rolled(0, gap, 5, 5, 5, 5);
            for (int lead = 1; lead < counts.length; lead++) {
                c.due("gap " + gap + ", lead " + lead, counts[lead], () -> x.roll(0));
            }
            c.due("done", 1, () -> x.convoyOf(0, 5));
        }
    }

    @Says(in = "16", sentence = "Throws `IndexOutOfBoundsException` if there is no such convoy")
    void rollOfNoConvoy() {
        for (int convoy : NO_CONVOYS) {
            dueThrow("no convoy " + convoy, INDEX, Edges::busy, x -> x.roll(convoy));
        }
        dueThrow("none at all", INDEX, IceConvoys::new, x -> x.roll(0));
        dueThrow("not yet", INDEX, () -> rolled(1, 1, 5), x -> x.roll(1));
    }

    @Says(in = "16", sentence = "Throws `UnsupportedOperationException` if it is refused for reason 4, 6, 7 or 8; the reason is kept for refusal")
    void refusedRolls() {
        dueRefused("not started", 4, 2, Edges::busy, x -> x.roll(2));
        dueRefused("without trucks", 4, 3, Edges::busy, x -> x.roll(3));
        dueRefused("done", 6, 0, () -> rolled(14, 1, 5, 5), x -> x.roll(0));
        dueRefused("in the way", 7, 1, Edges::busy, x -> x.roll(1));
        dueRefused("not borne", 8, 1, () -> startedOn36(37), x -> x.roll(0));
        c.due("just borne", 1, () -> startedOn36(36).roll(0));
    }

    /** On thick ice at the mile 0; the mile 1 bears 36 tonnes. */
    private static IceConvoys startedOn36(int weight) {
        IceConvoys x = new IceConvoys();
        x.drill(1);
        x.pass(7);
        x.drill(0);
        addConvoy(x, 1, weight);
        x.start(0);
        return x;
    }

    @Says(in = "17", sentence = "Returns the reason for which a convoy could not roll now.")
    void reasonsNotToRoll() {
        dueWhy(4, 2, Edges::busy, 2);
        dueWhy(4, 3, Edges::busy, 3);
        dueWhy(4, 0, () -> thickWith(1, 5), 0);
        dueWhy(6, 0, () -> rolled(12, 1, 5), 0);
        dueWhy(7, 1, Edges::busy, 1);
        dueWhy(8, 1, () -> startedOn36(37), 0);
        dueOnlyAnswer("nothing is refused", 4, () -> withConvoys(1), x -> x.why(0, false));
    }

    private void dueWhy(int reason, int detail, Making making, int convoy) {
        dueOnlyAnswer("reason", reason, making, x -> x.why(convoy, false));
        dueOnlyAnswer("detail", detail, making, x -> x.why(convoy, true));
    }

    @Says(in = "17", sentence = "Returns the reason or its detail, 0 if it could.")
    void noReasonIfItCould() {
        dueWhy(0, 0, () -> startedOn36(36), 0);
        dueWhy(0, 0, () -> rolled(11, 1, 60), 0);
        dueWhy(0, 0, () -> rolled(13, 1, 60, 60), 0);
    }

    @Says(in = "17", sentence = "Throws `IndexOutOfBoundsException` if there is no such convoy")
    void whyOfNoConvoy() {
        for (int convoy : NO_CONVOYS) {
            dueThrow("no convoy " + convoy, INDEX, Edges::busy, x -> x.why(convoy, false));
            dueThrow("no convoy " + convoy, INDEX, Edges::busy, x -> x.why(convoy, true));
        }
        dueThrow("none at all", INDEX, IceConvoys::new, x -> x.why(0, false));
    }

    @Says(in = "18", sentence = "0 for its gap, 1 for its trucks, 2 for its lead, 3 for its trucks at miles now, 4 for those that have arrived, 5 for 1 if it is done and 0 otherwise")
    void numbersOfAConvoy() {
        dueConvoyOf(() -> withConvoys(1), 1, 0, -1, 0, 0, 0);
        dueConvoyOf(() -> thickWith(3, 5, 5, 5, 5), 3, 4, -1, 0, 0, 0);
        dueConvoyOf(() -> rolled(0, 3, 5, 5, 5, 5), 3, 4, 0, 1, 0, 0);
        dueConvoyOf(() -> rolled(3, 3, 5, 5, 5, 5), 3, 4, 3, 1, 0, 0);
        dueConvoyOf(() -> rolled(4, 3, 5, 5, 5, 5), 3, 4, 4, 2, 0, 0);
        dueConvoyOf(() -> rolled(11, 1, 5, 5, 5, 5), 1, 4, 11, 4, 0, 0);
        dueConvoyOf(() -> rolled(12, 3, 5, 5, 5, 5), 3, 4, 12, 3, 1, 0);
        dueConvoyOf(() -> rolled(23, 3, 5, 5, 5, 5), 3, 4, 23, 1, 3, 0);
        dueConvoyOf(() -> rolled(24, 3, 5, 5, 5, 5), 3, 4, 24, 0, 4, 1);
    }

    private void dueConvoyOf(Making making, int... numbers) {
        for (int what = 0; what < 6; what++) {
            int w = what;
            dueOnlyAnswer("number " + w, numbers[w], making, x -> x.convoyOf(0, w));
        }
    }

    @Says(in = "18", sentence = "Throws `IndexOutOfBoundsException` if there is no such convoy")
    void numberOfNoConvoy() {
        for (int convoy : NO_CONVOYS) {
            dueThrow("no convoy " + convoy, INDEX, Edges::busy, x -> x.convoyOf(convoy, 0));
            dueThrow("no convoy " + convoy + " and no number", INDEX, Edges::busy, x -> x.convoyOf(convoy, 6));
        }
        dueThrow("not yet", INDEX, () -> withConvoys(3), x -> x.convoyOf(3, 0));
    }

    @Says(in = "18", sentence = "Throws `IllegalArgumentException` if what is not from 0 to 5")
    void noSuchNumberOfAConvoy() {
        for (int what : new int[] {-1, 6, Integer.MIN_VALUE, Integer.MAX_VALUE}) {
            dueThrow("no number " + what, ARGUMENT, Edges::busy, x -> x.convoyOf(3, what));
        }
    }

    @Says(in = "19", sentence = "0 for its kind, 1 for its weight, 2 for its axles")
    void numbersOfATruck() {
        int[][] trucks = {{0, 5, 2}, {0, 60, 6}, {1, 60, 2}, {1, 5, 6}};
        for (int place = 0; place < 4; place++) {
            int p = place;
            for (int what = 0; what < 3; what++) {
                int w = what;
                dueOnlyAnswer("number " + w, trucks[p][w], TrucksEdges::withOutermostTrucks, x -> x.truckOf(0, p, w));
            }
        }
    }

    private static IceConvoys withOutermostTrucks() {
        IceConvoys x = new IceConvoys();
        x.convoy(3);
        x.join(0, 0, x.truck(0, 5, 2, 0));
        x.join(0, 0, x.truck(0, 60, 6, 0));
        x.join(0, 1, x.truck(1, 60, 2, 1));
        x.join(0, 1, x.truck(1, 5, 6, 1));
        return x;
    }

    @Says(in = "19", sentence = "3 for its mile, -1 if its convoy has not started, otherwise as told, less than 0 if it has not come to the road, 12 or more if it has arrived")
    void mileOfATruck() {
        for (int place = 0; place < 4; place++) {
            int p = place;
            c.due("not started", -1, () -> withOutermostTrucks().truckOf(0, p, 3));
            for (int gap = 1; gap <= 3; gap++) {
                int behind = p * (gap + 1);
                int g = gap;
                c.due("just started", -behind, () -> rolled(0, g, 5, 5, 5, 5).truckOf(0, p, 3));
                c.due("all at or before the last mile", 11 - behind, () -> rolled(11, g, 5, 5, 5, 5).truckOf(0, p, 3));
                c.due("the first arrived", 12 - behind, () -> rolled(12, g, 5, 5, 5, 5).truckOf(0, p, 3));
                c.due("done", 12 + 3 * (g + 1) - behind, () -> rolled(12 + 3 * (g + 1), g, 5, 5, 5, 5).truckOf(0, p, 3));
            }
        }
    }

    @Says(in = "19", sentence = "its place in the convoy, from 0")
    void placesInAConvoy() {
        dueOnlyAnswer("the first", 5, TrucksEdges::withOutermostTrucks, x -> x.truckOf(0, 0, 1));
        dueOnlyAnswer("the last", 6, TrucksEdges::withOutermostTrucks, x -> x.truckOf(0, 3, 2));
        c.due("behind the last", INDEX, () -> withOutermostTrucks().truckOf(0, 4, 1));
        c.due("before the first", INDEX, () -> withOutermostTrucks().truckOf(0, -1, 1));
    }

    @Says(in = "19", sentence = "Throws `IndexOutOfBoundsException` if there is no such convoy or place")
    void truckOfNoConvoyOrPlace() {
        for (int convoy : NO_CONVOYS) {
            dueThrow("no convoy " + convoy, INDEX, Edges::busy, x -> x.truckOf(convoy, 0, 0));
        }
        dueThrow("not yet", INDEX, () -> withConvoys(1), x -> x.truckOf(1, 0, 0));
        for (int place : new int[] {-1, 3, 4, Integer.MIN_VALUE, Integer.MAX_VALUE}) {
            dueThrow("no place " + place, INDEX, Edges::busy, x -> x.truckOf(0, place, 0));
            dueThrow("no place " + place + " and no number", INDEX, Edges::busy, x -> x.truckOf(0, place, 4));
        }
        dueThrow("a convoy without trucks", INDEX, Edges::busy, x -> x.truckOf(3, 0, 0));
    }

    @Says(in = "19", sentence = "Throws `IllegalArgumentException` if what is not from 0 to 3")
    void noSuchNumberOfATruck() {
        for (int what : new int[] {-1, 4, Integer.MIN_VALUE, Integer.MAX_VALUE}) {
            dueThrow("no number " + what, ARGUMENT, Edges::busy, x -> x.truckOf(0, 2, what));
        }
    }

    @Says(in = "20", sentence = "Returns the load of a truck in a convoy.")
    void outermostLoads() {
        float[] loads = {5.0f, 60.0f, 60.0f + (0.5f * 2.0f), 5.0f + (0.5f * 6.0f)};
        for (int place = 0; place < 4; place++) {
            int p = place;
            dueOnlyAnswer("load", loads[p], TrucksEdges::withOutermostTrucks, x -> x.load(0, p));
        }
    }

    @Says(in = "20", sentence = "its place in the convoy, from 0")
    void loadsByPlaces() {
        c.due("the first", 5.0f, () -> withOutermostTrucks().load(0, 0));
        c.due("the last", 8.0f, () -> withOutermostTrucks().load(0, 3));
    }

    @Says(in = "20", sentence = "Throws `IndexOutOfBoundsException` if there is no such convoy or place")
    void loadOfNoConvoyOrPlace() {
        for (int convoy : NO_CONVOYS) {
            dueThrow("no convoy " + convoy, INDEX, Edges::busy, x -> x.load(convoy, 0));
        }
        for (int place : new int[] {-1, 3, 4, Integer.MIN_VALUE, Integer.MAX_VALUE}) {
            dueThrow("no place " + place, INDEX, Edges::busy, x -> x.load(0, place));
        }
        dueThrow("behind the fourth", INDEX, TrucksEdges::withOutermostTrucks, x -> x.load(0, 4));
        dueThrow("a convoy without trucks", INDEX, Edges::busy, x -> x.load(3, 0));
    }

    @Says(in = "21", sentence = "Returns 10 times its convoy plus its place there.")
    void convoyAndPlaceAtAMile() {
        c.due("the first of the convoy 0 at the mile 0", 0, () -> rolled(0, 1, 5).at(0));
        c.due("the first of the convoy 0 at the mile 11", 0, () -> rolled(11, 3, 5).at(11));
        c.due("the last of the convoy 0 at the mile 0", 3, () -> rolled(6, 1, 5, 5, 5, 5).at(0));
        c.due("the last of the convoy 0 at the mile 11", 3, () -> rolled(17, 1, 5, 5, 5, 5).at(11));
        dueOnlyAnswer("the convoy 1", 10, Edges::busy, x -> x.at(0));
        IceConvoys x = thick();
        for (int convoy = 0; convoy < 3; convoy++) {
            x.convoy(1);
        }
        addConvoy(x, 2, 5, 5, 5, 5);
        x.start(3);
        roll(x, 3, 11);
        for (int place = 0; place < 4; place++) {
            int p = place;
            c.due("of the convoy 3", 30 + p, () -> x.at(11 - 3 * p));
        }
    }

    @Says(in = "21", sentence = "Throws `IndexOutOfBoundsException` if there is no such mile")
    void atNoMile() {
        for (int mile : NO_MILES) {
            dueThrow("no mile " + mile, INDEX, Edges::busy, x -> x.at(mile));
        }
        c.due("a truck at -2", INDEX, () -> rolled(0, 1, 5, 5).at(-2));
        c.due("a truck at 12", INDEX, () -> rolled(12, 1, 5).at(12));
    }

    @Says(in = "21", sentence = "Throws `NoSuchElementException` if there is none")
    void noTruckAtAMile() {
        dueThrow("no convoys", NONE, IceConvoys::new, x -> x.at(0));
        dueThrow("not started", NONE, () -> thickWith(1, 5), x -> x.at(0));
        dueThrow("between two", NONE, () -> rolled(11, 1, 5, 5), x -> x.at(10));
        dueThrow("arrived", NONE, () -> rolled(12, 1, 5), x -> x.at(11));
        dueThrow("behind the only one", NONE, () -> rolled(11, 1, 5), x -> x.at(9));
        dueThrow("the convoy without trucks", NONE, Edges::busy, x -> x.at(11));
    }
}
