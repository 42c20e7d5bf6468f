/** The sentences of "What it is", and of the Terms those on miles, trucks and convoys, "In doubt, too" among them. */
final class TermsEdges extends Edges {
    @Says(in = "What it is", sentence = "An object is used for at most 512 calls after it has been made")
    void the512thCallStillAnswers() {
        IceConvoys x = new IceConvoys();
        for (int call = 1; call <= 511; call++) {
            x.drill(call % 12);
        }
        c.due("the 512th call", 511, () -> x.account(11));
        IceConvoys y = new IceConvoys();
        for (int call = 1; call <= 504; call++) {
            y.pass(30);
        }
        for (int left = 7; left > 0; left--) {
            y.undo();
        }
        c.due("the 512th call, an undo", 0, y::undo);
    }

    @Says(in = "Terms", sentence = "Divisions of whole numbers are rounded down.")
    void aTenthOfTheWeightIsRoundedDown() {
        int[][] strains = {{5, 1}, {9, 1}, {10, 2}, {19, 2}, {20, 3}, {29, 3}, {49, 5}, {50, 6}, {59, 6}, {60, 7}};
        for (int[] strain : strains) {
            IceConvoys x = rolled(0, 1, strain[0]);
            c.due("strain by " + strain[0] + " tonnes", strain[1], () -> x.mileOf(0, 1));
        }
    }

    @Says(in = "Terms", sentence = "Computations of floats are done from the left to the right, those in brackets first.")
    void floatsFromTheLeftToTheRight() {
        for (int cold = 1; cold <= 40; cold++) {
            IceConvoys x = new IceConvoys();
            x.set(0, -cold);
            x.set(1, 100 - 2 * cold);
            x.pass(29);
            x.drill(3);
            float ice = 30.0f;
            for (int day = 0; day < 29; day++) {
                float brackets = ice + 10.0f;
                float product = (float) cold * 1.5f;
                float quotient = product / brackets;
                ice = ice + quotient;
            }
            float due = ice;
            c.due("ice after 29 days at -" + cold, due, () -> x.ice(0));
            float square = due * due;
            float weighed = square * 0.04f;
            float percent = (float) (100 - 2 * cold) / 100.0f;
            c.due("bears at -" + cold, bits(weighed * percent), () -> x.bears(3));
        }
    }

    @Says(in = "Terms", sentence = "0, the temperature, -40 to 10, -20")
    void rangeOfTheTemperature() {
        dueRange(0, -40, 10, -20);
    }

    @Says(in = "Terms", sentence = "1, the limit in percent, 0 to 100, 100")
    void rangeOfTheLimit() {
        dueRange(1, 0, 100, 100);
    }

    @Says(in = "Terms", sentence = "2, the days for which a drill is good, 1 to 14, 7.")
    void rangeOfTheGoodDays() {
        dueRange(2, 1, 14, 7);
    }

    private void dueRange(int what, int lowest, int highest, int first) {
        IceConvoys x = new IceConvoys();
        c.due("first value", first, () -> x.setting(what));
        for (int value : new int[] {lowest, highest}) {
            x.set(what, value);
            c.due("the outermost in", value, () -> x.setting(what));
        }
        for (int value : new int[] {lowest - 1, highest + 1, Integer.MIN_VALUE, Integer.MAX_VALUE}) {
            dueThrow("out of range: " + value, ARGUMENT, IceConvoys::new, y -> y.set(what, value));
        }
    }

    @Says(in = "Terms", sentence = "Days are numbered from 0.")
    void theFirstDayIs0() {
        IceConvoys x = new IceConvoys();
        c.due("the first day", 0, () -> x.account(0));
        x.drill(0);
        c.due("a drill on it", 0, () -> x.mileOf(0, 2));
        x.pass(1);
        x.drill(1);
        c.due("the second day", 1, () -> x.account(0));
        c.due("a drill on it", 1, () -> x.mileOf(1, 2));
    }

    @Says(in = "Terms", sentence = "There are the miles 0 to 11.")
    void theOutermostMiles() {
        for (int mile : new int[] {0, 11}) {
            IceConvoys x = thickWith(1, 5);
            c.due("drill", bits(x.ice(0)), () -> x.drill(mile));
            c.due("drilled", bits(x.ice(0)), () -> x.drilled(mile));
            c.due("mileOf", 30, () -> x.mileOf(mile, 2));
            c.due("ice", x.ice(5), () -> x.ice(mile));
            c.due("bears", x.bears(5), () -> x.bears(mile));
            c.due("sign", '0', () -> x.sign(mile));
            c.due("iceIn", bits(x.ice(5)), () -> x.iceIn(mile, 0));
            c.due("bearsIn", 0, () -> x.bearsIn(mile, 99));
            x.start(0);
            roll(x, 0, mile);
            c.due("at", 0, () -> x.at(mile));
        }
        IceConvoys y = thick();
        for (int mile : NO_MILES) {
            c.due("drill", INDEX, () -> y.drill(mile));
            c.due("drilled", INDEX, () -> y.drilled(mile));
            c.due("mileOf", INDEX, () -> y.mileOf(mile, 2));
            c.due("ice", INDEX, () -> y.ice(mile));
            c.due("bears", INDEX, () -> y.bears(mile));
            c.due("sign", INDEX, () -> y.sign(mile));
            c.due("iceIn", INDEX, () -> y.iceIn(mile, 0));
            c.due("bearsIn", INDEX, () -> y.bearsIn(mile, 1));
            c.due("at", INDEX, () -> y.at(mile));
        }
    }

    @Says(in = "Terms", sentence = "Each has ice, a float from 0.0f to 200.0f")
    void iceFromNothingToTheMost() {
        IceConvoys x = withoutIce();
        IceConvoys y = withMostIce();
        for (int mile = 0; mile < 12; mile++) {
            int m = mile;
            c.due("no ice", 0.0f, () -> x.ice(m));
            c.due("the most ice", 200.0f, () -> y.ice(m));
        }
    }

    @Says(in = "Terms", sentence = "cracks from 0 to 5, at first 0")
    void cracksFrom0To5() {
        IceConvoys x = new IceConvoys();
        IceConvoys y = withFiveCracks();
        for (int mile = 0; mile < 12; mile++) {
            int m = mile;
            c.due("at first", 0, () -> x.mileOf(m, 0));
            c.due("by all 16 trucks", 5, () -> y.mileOf(m, 0));
        }
    }

    @Says(in = "Terms", sentence = "and a strain, a whole number, at first 0.")
    void strainAtFirst() {
        IceConvoys x = new IceConvoys();
        for (int mile = 0; mile < 12; mile++) {
            int m = mile;
            c.due("at first", 0, () -> x.mileOf(m, 1));
        }
    }

    @Says(in = "Terms", sentence = "its ice as it is then and the day are noted, in place of an earlier drill.")
    void aSecondDrillTakesThePlace() {
        IceConvoys x = new IceConvoys();
        x.drill(4);
        x.set(0, 10);
        x.pass(1);
        c.due("noted as it was", bits(30.0f), () -> x.drilled(4));
        x.drill(4);
        c.due("noted as it is, though thinner", bits(26.0f), () -> x.drilled(4));
        c.due("the later day", 1, () -> x.mileOf(4, 2));
        x.drill(4);
        c.due("twice on a day", bits(26.0f), () -> x.drilled(4));
        c.due("no other mile", NONE, () -> x.drilled(5));
    }

    @Says(in = "Terms", sentence = "What a mile bears by some ice is the ice, times the ice, times 0.04f")
    void borneByTheOutermostIce() {
        IceConvoys x = withoutIce();
        x.drill(0);
        c.due("by no ice", 0, () -> x.bears(0));
        IceConvoys y = withMostIce();
        y.drill(0);
        c.due("by the most ice", bits(200.0f * 200.0f * 0.04f), () -> y.bears(0));
    }

    @Says(in = "Terms", sentence = "times (1.0f less (0.1f times the cracks as a float))")
    void borneThroughNoneTo5Cracks() {
        IceConvoys x = withFiveCracks();
        float ice = x.ice(0);
        x.set(0, -40);
        for (int cracks = 5; cracks >= 0; cracks--) {
            float less = 1.0f - (0.1f * (float) cracks);
            c.due("through " + cracks + " cracks", bits(ice * ice * 0.04f * less), () -> x.bears(0));
            x.pass(1);
        }
    }

    @Says(in = "Terms", sentence = "times (the limit in percent as a float, divided by 100.0f).")
    void borneAtTheOutermostLimits() {
        IceConvoys x = new IceConvoys();
        x.drill(0);
        for (int limit : new int[] {0, 1, 33, 99, 100}) {
            x.set(1, limit);
            c.due("at a limit of " + limit, bits(30.0f * 30.0f * 0.04f * ((float) limit / 100.0f)), () -> x.bears(0));
        }
    }

    @Says(in = "Terms", sentence = "By its drill a mile bears that by the noted ice and by its cracks and the limit as they are now")
    void borneByNotedIceAndPresentCracks() {
        IceConvoys x = rolled(4, 1, 60, 60, 60);
        float ice = x.ice(0);
        c.due("a crack that came after the drill", bits(ice * ice * 0.04f * 0.9f), () -> x.bears(0));
        x.set(0, -21);
        x.pass(1);
        c.due("healed after the drill, by the noted ice", bits(ice * ice * 0.04f), () -> x.bears(0));
        x.set(1, 50);
        c.due("the limit that was set after the drill", bits(ice * ice * 0.04f * 0.5f), () -> x.bears(0));
    }

    @Says(in = "Terms", sentence = "it bears 0.0f if it was never drilled")
    void borneByAMileNeverDrilled() {
        IceConvoys x = withMostIce();
        c.due("never drilled", 0, () -> x.bears(0));
        x.drill(0);
        x.undo();
        c.due("its only drill was undone", 0, () -> x.bears(0));
    }

    @Says(in = "Terms", sentence = "or if more days have gone by since it was drilled than a drill is good for.")
    void borneOnTheLastGoodDayAndTheNext() {
        IceConvoys x = new IceConvoys();
        x.pass(3);
        x.drill(11);
        int borne = x.bears(11);
        x.pass(7);
        c.due("as many days", borne, () -> x.bears(11));
        x.pass(1);
        c.due("one more", 0, () -> x.bears(11));
    }

    @Says(in = "Terms", sentence = "A truck is a flat one, 0, or a tank, 1, with a weight from 5 to 60 tonnes and 2 to 6 axles.")
    void theOutermostTrucks() {
        for (int kind = 0; kind <= 1; kind++) {
            int k = kind;
            IceConvoys x = new IceConvoys();
            c.due("the lightest", 0, () -> x.truck(k, 5, 2, k));
            c.due("the heaviest", 1, () -> x.truck(k, 60, 6, k));
            c.due("its weight", 5, () -> x.inRow(k, 0, 0));
            c.due("its axles", 2, () -> x.inRow(k, 0, 1));
            c.due("its weight", 60, () -> x.inRow(k, 1, 0));
            c.due("its axles", 6, () -> x.inRow(k, 1, 1));
            c.due("too light", ARGUMENT, () -> x.truck(k, 4, 2, k));
            c.due("too heavy", ARGUMENT, () -> x.truck(k, 61, 2, k));
            c.due("too few axles", ARGUMENT, () -> x.truck(k, 5, 1, k));
            c.due("too many axles", ARGUMENT, () -> x.truck(k, 5, 7, k));
        }
        IceConvoys y = new IceConvoys();
        c.due("below the kinds", ARGUMENT, () -> y.truck(-1, 5, 2, 0));
        c.due("above the kinds", ARGUMENT, () -> y.truck(2, 5, 2, 1));
    }

    @Says(in = "Terms", sentence = "a tank adds 0.5f for each of its axles to its load")
    void theOutermostLoads() {
        IceConvoys x = new IceConvoys();
        x.convoy(1);
        float[] loads = {5.0f, 60.0f, 5.0f + 0.5f * 2.0f, 60.0f + 0.5f * 6.0f};
        for (int place = 0; place < 4; place++) {
            int kind = place / 2;
            int p = place;
            x.truck(kind, place % 2 == 0 ? 5 : 60, place % 2 == 0 ? 2 : 6, kind);
            x.join(0, kind, 0);
            c.due("load of " + p, loads[p], () -> x.load(0, p));
        }
    }

    @Says(in = "Terms", sentence = "There is a row for flat trucks, 0, and one for tanks, 1")
    void theOutermostRows() {
        IceConvoys x = new IceConvoys();
        c.due("a flat one", 0, () -> x.truck(0, 5, 2, 0));
        c.due("a tank", 0, () -> x.truck(1, 6, 2, 1));
        c.due("a tank in the row 0", REFUSED, () -> x.truck(1, 6, 2, 0));
        c.due("a flat one in the row 1", REFUSED, () -> x.truck(0, 5, 2, 1));
        for (int row : new int[] {-1, 2, Integer.MIN_VALUE, Integer.MAX_VALUE}) {
            c.due("no row " + row, INDEX, () -> x.truck(0, 5, 2, row));
            c.due("no row " + row, INDEX, () -> x.inRow(row, 0, 0));
        }
    }

    @Says(in = "Terms", sentence = "each has the places 0 to 4")
    void theOutermostPlaces() {
        IceConvoys x = withFullRows();
        for (int row = 0; row <= 1; row++) {
            int r = row;
            c.due("the place 0", 20 + 10 * r, () -> x.inRow(r, 0, 0));
            c.due("the place 4", 24 + 10 * r, () -> x.inRow(r, 4, 0));
            c.due("no place -1", INDEX, () -> x.inRow(r, -1, 0));
            c.due("no place 5", INDEX, () -> x.inRow(r, 5, 0));
            c.due("no sixth truck", REFUSED, () -> x.truck(r, 5, 2, r));
        }
    }

    @Says(in = "Terms", sentence = "a truck that comes into it takes the lowest free one.")
    void theLowestFreePlace() {
        for (int row = 0; row <= 1; row++) {
            int r = row;
            IceConvoys x = withFullRows();
            x.convoy(1);
            for (int place : new int[] {4, 0, 2}) {
                x.join(0, r, place);
            }
            for (int place : new int[] {0, 2, 4}) {
                c.due("the lowest free one", place, () -> x.truck(r, 5, 2, r));
            }
            c.due("none is free", REFUSED, () -> x.truck(r, 5, 2, r));
        }
    }

    @Says(in = "Terms", sentence = "At most 4 convoys are kept, numbered from 0")
    void fourConvoysFrom0To3() {
        IceConvoys x = new IceConvoys();
        for (int number = 0; number <= 3; number++) {
            int n = number;
            c.due("not there yet", INDEX, () -> x.convoyOf(n, 0));
            c.due("its number", n, () -> x.convoy(2));
            c.due("its gap", 2, () -> x.convoyOf(n, 0));
        }
        c.due("a fifth", REFUSED, () -> x.convoy(2));
        c.due("no convoy 4", INDEX, () -> x.convoyOf(4, 0));
        c.due("no convoy -1", INDEX, () -> x.convoyOf(-1, 0));
    }

    @Says(in = "Terms", sentence = "each with a gap from 1 to 3")
    void theOutermostGaps() {
        IceConvoys x = new IceConvoys();
        c.due("below", ARGUMENT, () -> x.convoy(0));
        c.due("above", ARGUMENT, () -> x.convoy(4));
        x.convoy(1);
        x.convoy(3);
        c.due("the narrowest", 1, () -> x.convoyOf(0, 0));
        c.due("the widest", 3, () -> x.convoyOf(1, 0));
    }

    @Says(in = "Terms", sentence = "at most 4 trucks in the order in which they joined")
    void fourTrucksInTheirOrder() {
        IceConvoys x = withFullRows();
        x.convoy(1);
        int[][] joined = {{1, 3, 33}, {0, 4, 24}, {0, 0, 20}, {1, 0, 30}};
        for (int place = 0; place < 4; place++) {
            int p = place;
            c.due("not there yet", INDEX, () -> x.truckOf(0, p, 1));
            c.due("how many", p + 1, () -> x.join(0, joined[p][0], joined[p][1]));
        }
        c.due("a fifth", REFUSED, () -> x.join(0, 0, 1));
        for (int place = 0; place < 4; place++) {
            int p = place;
            c.due("the truck " + p, joined[p][2], () -> x.truckOf(0, p, 1));
        }
        c.due("no truck 4", INDEX, () -> x.truckOf(0, 4, 1));
    }

    @Says(in = "Terms", sentence = "and a lead, which is -1 until it starts, as at first.")
    void theLeadUntilItStarts() {
        IceConvoys x = thick();
        x.convoy(3);
        c.due("without trucks", -1, () -> x.convoyOf(0, 2));
        x.join(0, 0, x.truck(0, 5, 2, 0));
        c.due("with a truck", -1, () -> x.convoyOf(0, 2));
        x.start(0);
        c.due("started", 0, () -> x.convoyOf(0, 2));
    }

    @Says(in = "Terms", sentence = "is at the mile lead less k times (the gap plus 1)")
    void milesOfAllFourTrucksByEachGap() {
        for (int gap = 1; gap <= 3; gap++) {
            IceConvoys x = rolled(11, gap, 10, 11, 12, 13);
            for (int place = 0; place < 4; place++) {
                int p = place;
                int mile = 11 - place * (gap + 1);
                c.due("its mile", mile, () -> x.truckOf(0, p, 3));
                if (mile >= 0) {
                    c.due("the truck there", p, () -> x.at(mile));
                }
            }
        }
    }

    @Says(in = "Terms", sentence = "if there is such a mile and the convoy has started.")
    void noMileBeforeTheStartAndOffTheRoad() {
        IceConvoys x = thickWith(1, 10, 10, 10);
        c.due("no truck at a mile before the start", 0, () -> x.account(5));
        x.start(0);
        c.due("the lead alone, at the mile 0", 1, () -> x.account(5));
        roll(x, 0, 3);
        c.due("the third at -1 is not on the road", 2, () -> x.account(5));
        x.roll(0);
        c.due("the third at the mile 0", 3, () -> x.account(5));
        roll(x, 0, 7);
        c.due("the first at the mile 11", 3, () -> x.account(5));
        x.roll(0);
        c.due("the first at 12 is not on the road", 2, () -> x.account(5));
        c.due("nor at the mile 11", NONE, () -> x.at(11));
    }

    @Says(in = "Terms", sentence = "When a convoy that has started rolls, its lead becomes 1 more.")
    void theLeadFrom0UntilAllArrived() {
        IceConvoys x = rolled(0, 3, 5, 5, 5, 5);
        for (int lead = 1; lead <= 24; lead++) {
            int due = lead;
            x.roll(0);
            c.due("the lead", due, () -> x.convoyOf(0, 2));
        }
        c.due("not further", REFUSED, () -> x.roll(0));
        c.due("the lead", 24, () -> x.convoyOf(0, 2));
    }

    @Says(in = "Terms", sentence = "each of its trucks that is at a mile is at one that bears by its drill at least the load of the truck")
    void aMileThatBearsJustTheLoad() {
        int[][] trucks = {{0, 36, 6}, {1, 35, 2}, {1, 34, 4}};
        for (int[] truck : trucks) {
            IceConvoys x = withLoneTruck(truck[0], truck[1], truck[2]);
            c.due("starts where 36 tonnes are borne", 1, () -> x.start(0));
            c.due("rolls where 36 tonnes are borne", 1, () -> x.roll(0));
        }
        int[][] heavier = {{0, 37, 2}, {1, 35, 3}, {1, 34, 5}};
        for (int[] truck : heavier) {
            IceConvoys x = withLoneTruck(truck[0], truck[1], truck[2]);
            c.due("does not start", REFUSED, () -> x.start(0));
        }
        IceConvoys y = withLoneTruck(0, 36, 2);
        y.start(0);
        y.set(1, 99);
        c.due("does not roll at a lower limit", REFUSED, () -> y.roll(0));
    }

    /** On ice of 30.0f, which bears 36.0f by the drills of the miles 0 and 1. */
    private static IceConvoys withLoneTruck(int kind, int weight, int axles) {
        IceConvoys x = new IceConvoys();
        x.convoy(1);
        x.join(0, kind, x.truck(kind, weight, axles, kind));
        x.drill(0);
        x.drill(1);
        return x;
    }

    @Says(in = "Terms", sentence = "each of its trucks that is at a mile is at one")
    void trucksOffTheRoadAreNotAsked() {
        IceConvoys x = withConvoy(1, 36, 60);
        drillAll(x);
        x.start(0);
        x.roll(0);
        c.refused("the second one is too heavy for the mile 0", x, 8, 0, () -> x.roll(0));
        IceConvoys y = rolled(11, 1, 60);
        y.set(1, 0);
        c.due("arrives, though no mile bears anything", 0, () -> y.roll(0));
        IceConvoys z = rolled(12, 3, 60, 5);
        z.set(1, 10);
        c.due("the first one has arrived and loads no mile", 1, () -> z.roll(0));
    }

    @Says(in = "Terms", sentence = "and at which no truck of another convoy is.")
    void onlyTrucksOfOthersOnTheRoadAreInTheWay() {
        IceConvoys x = thickWith(1, 10, 10);
        addConvoy(x, 1, 10);
        addConvoy(x, 1, 10);
        x.start(0);
        c.due("not while the other is at the mile 0", REFUSED, () -> x.start(1));
        x.roll(0);
        c.due("the other's second truck has yet to come", 1, () -> x.start(1));
        c.refused("now it may not come", x, 7, 0, () -> x.roll(0));
        c.refused("nor this one behind the first", x, 7, 1, () -> x.roll(1));
        IceConvoys y = rolled(11, 1, 10);
        addConvoy(y, 1, 10);
        y.start(1);
        roll(y, 1, 10);
        c.refused("the other is at the mile 11", y, 7, 11, () -> y.roll(1));
        y.roll(0);
        c.due("the other has arrived", 1, () -> y.roll(1));
        c.due("both beyond the road", 0, () -> y.roll(1));
    }

    @Says(in = "Terms", sentence = "gets a tenth of the weight of this truck, and 1 more, of strain")
    void strainAtEachMileOnce() {
        IceConvoys x = rolled(13, 1, 60, 5);
        for (int mile = 0; mile < 12; mile++) {
            int m = mile;
            c.due("strain by both", 8, () -> x.mileOf(m, 1));
            c.due("both came", 2, () -> x.mileOf(m, 4));
        }
        x.roll(0);
        c.due("none by the second that arrives", 8, () -> x.mileOf(11, 1));
    }

    @Says(in = "Terms", sentence = "if its strain is 20 or more then, it becomes 20 less and the cracks 1 more")
    void strainOf19And20And21() {
        int[][] cases = {{60, 50, 50, 19, 0}, {60, 60, 50, 0, 1}, {60, 60, 60, 1, 1}};
        for (int[] by : cases) {
            IceConvoys x = rolled(4, 1, by[0], by[1], by[2]);
            c.due("strain", by[3], () -> x.mileOf(0, 1));
            c.due("cracks", by[4], () -> x.mileOf(0, 0));
            c.due("no crack by two at the mile 1", 0, () -> x.mileOf(1, 0));
        }
    }

    @Says(in = "Terms", sentence = "but at most 5.")
    void fiveCracksAtMost() {
        IceConvoys x = withFiveCracks();
        for (int mile = 0; mile < 12; mile++) {
            int m = mile;
            c.due("cracks", 5, () -> x.mileOf(m, 0));
            c.due("strain", 12, () -> x.mileOf(m, 1));
        }
    }

    /** No run comes to it, as all 16 trucks strain a mile 112 at most. */
    @Says(in = "Terms", sentence = "but at most 5.")
    void noSixthCrack() {
        for (int cracks = 3; cracks <= 5; cracks++) {
            IceConvoys x = thickWith(1, 60, 60, 60);
            Inside.set(x, "now.miles[0].cracks", cracks);
            Inside.set(x, "now.miles[0].strain", 19);
            x.start(0);
            int due = Math.min(cracks + 1, 5);
            c.due("cracks", due, () -> x.mileOf(0, 0));
            c.due("strain becomes 20 less all the same", 6, () -> x.mileOf(0, 1));
        }
        IceConvoys y = thickWith(1, 60, 60);
        Inside.set(y, "now.miles[3].cracks", 5);
        Inside.set(y, "now.miles[3].strain", 19);
        y.start(0);
        // 5 cracks leave a half of 155.5 tonnes and 6 would leave 62.2: at 96 percent just the first bears 60.
        y.set(1, 96);
        c.due("rolls on through 5 cracks", 14, () -> y.rolls(0));
        c.due("the same by rolling in a copy", 14, () -> y.rollsAgain(0));
    }

    @Says(in = "Terms", sentence = "When the mile of a truck would be 12, the truck has arrived, and its weight is delivered.")
    void arrivedAt12AndDeliveredOnce() {
        IceConvoys x = rolled(11, 1, 17, 29);
        c.due("at 11 nothing is delivered", 0, () -> x.account(7));
        c.due("at 11 none has arrived", 0, () -> x.account(6));
        x.roll(0);
        c.due("at 12 it is delivered", 17, () -> x.account(7));
        c.due("at 12 it has arrived", 1, () -> x.account(6));
        x.roll(0);
        c.due("at 13 not once more", 17, () -> x.account(7));
        x.roll(0);
        c.due("the second at 12", 46, () -> x.account(7));
        c.due("both have arrived", 2, () -> x.account(6));
    }

    @Says(in = "Terms", sentence = "A convoy is done when all of its trucks have arrived.")
    void doneWithTheLastTruck() {
        IceConvoys x = rolled(13, 1, 10, 10);
        c.due("one has not arrived", 0, () -> x.convoyOf(0, 5));
        x.roll(0);
        c.due("all have arrived", 1, () -> x.convoyOf(0, 5));
        x.convoy(1);
        c.due("a convoy without trucks, in which none arrived", 0, () -> x.convoyOf(1, 5));
        c.due("one is done", 1, () -> x.account(4));
    }

    @Says(in = "Terms", sentence = "A convoy starts with its lead 0, under the same conditions as it rolls, and with the same strain.")
    void startsAsItRolls() {
        IceConvoys x = withConvoy(3, 59, 60);
        addConvoy(x, 1, 5);
        c.refused("the mile 0 was never drilled", x, 8, 0, () -> x.start(0));
        x.set(0, -40);
        x.pass(30);
        x.drill(0);
        c.due("the trucks of the convoy", 2, () -> x.start(0));
        c.due("the lead", 0, () -> x.convoyOf(0, 2));
        c.due("the strain of the first alone", 6, () -> x.mileOf(0, 1));
        c.due("it alone came", 1, () -> x.mileOf(0, 4));
        c.due("no strain at the mile 1", 0, () -> x.mileOf(1, 1));
        c.refused("the mile 0 is taken", x, 7, 0, () -> x.start(1));
        IceConvoys y = thick();
        for (int convoy = 0; convoy < 3; convoy++) {
            addConvoy(y, 1, 60);
            y.start(convoy);
            y.roll(convoy);
            roll(y, convoy, 11);
        }
        c.due("a crack by the third start", 1, () -> y.mileOf(0, 0));
    }

    @Says(in = "Terms", sentence = "A drill is good for one day more with each day that the setting tells, the day of the drill not counted.")
    void goodAsManyDaysAsTheSettingTells() {
        for (int days : new int[] {1, 2, 7, 13, 14}) {
            IceConvoys x = new IceConvoys();
            x.set(2, days);
            x.drill(0);
            c.due("on its day", 1, () -> x.mileOf(0, 3));
            x.pass(days);
            c.due("on the last day", 1, () -> x.mileOf(0, 3));
            x.pass(1);
            c.due("a day later", 0, () -> x.mileOf(0, 3));
            c.due("a day more by the setting", days == 14 ? 0 : 1, () -> moreDays(x, days));
        }
    }

    private static int moreDays(IceConvoys x, int days) {
        x.set(2, Math.min(days + 1, 14));
        return x.mileOf(0, 3);
    }

    @Says(in = "Terms", sentence = "Whether trucks of another convoy are in the way is asked of all trucks ahead of what miles bear.")
    void theWayOfAllTrucksFirst() {
        IceConvoys x = withTwoConvoysClose();
        x.set(1, 0);
        c.refused("the third truck's way before the first one's ice", x, 7, 0, () -> x.roll(0));
        c.due("why, too", 7, () -> x.why(0, false));
    }

    /** The convoy 0 at the miles 3 and 1 with a third truck before the mile 0, and the convoy 1 at the mile 0. */
    private static IceConvoys withTwoConvoysClose() {
        IceConvoys x = thickWith(1, 10, 10, 10);
        addConvoy(x, 1, 10);
        x.start(0);
        roll(x, 0, 3);
        x.start(1);
        return x;
    }

    @Says(in = "Terms", sentence = "A convoy that has not started could not roll for reason 4.")
    void notStartedIsTheReason() {
        IceConvoys x = new IceConvoys();
        x.convoy(1);
        addConvoy(x, 1, 60);
        for (int convoy = 0; convoy <= 1; convoy++) {
            int n = convoy;
            c.due("why", 4, () -> x.why(n, false));
            c.due("its detail", n, () -> x.why(n, true));
            c.refused("roll", x, 4, n, () -> x.roll(n));
            c.due("rolls", 0, () -> x.rolls(n));
            c.due("rollsAgain", 0, () -> x.rollsAgain(n));
        }
    }

    @Says(in = "Terms", sentence = "Cracks by its own strain count as a convoy rolls on.")
    void stoppedByItsOwnCrackAhead() {
        int[][] weights = {{50, 50, 60}, {50, 60, 50}, {60, 50, 50}, {50, 60, 60}, {60, 50, 60}, {60, 60, 50}};
        for (int k = 0; k < weights.length; k++) {
            IceConvoys x = withThinMile5(weights[k]);
            int due = k < 3 ? 18 : 10;
            c.due("strain of 19 or 20 by the first three", due, () -> x.rolls(0));
            c.due("the same by rolling in a copy", due, () -> x.rollsAgain(0));
            roll(x, 0, 7);
            c.due("when the first two have passed it", due - 7, () -> x.rolls(0));
            roll(x, 0, due - 7);
            c.due("not further", k < 3 ? 6 : 8, () -> x.why(0, false));
        }
    }

    /** Started, with a fourth truck of 60 tonnes, which the mile 5 alone does not bear through a crack. */
    private static IceConvoys withThinMile5(int... weights) {
        IceConvoys x = withConvoy(1, weights[0], weights[1], weights[2], 60);
        x.pass(13);
        x.drill(5);
        x.pass(6);
        for (int mile = 0; mile < 12; mile++) {
            if (mile != 5) {
                x.drill(mile);
            }
        }
        x.start(0);
        return x;
    }

    @Says(in = "Terms", sentence = "Cracks by its own strain count as a convoy rolls on.")
    void stoppedByItsOwnCrack() {
        IceConvoys x = withConvoy(1, 60, 60, 60, 60);
        x.pass(13);
        drillAll(x);
        x.start(0);
        c.due("60.36 tonnes are borne without a crack", 5, () -> x.rolls(0));
        c.due("the same by rolling in a copy", 5, () -> x.rollsAgain(0));
        roll(x, 0, 5);
        c.refused("the crack of the first three stops the fourth", x, 8, 0, () -> x.roll(0));
        IceConvoys y = withConvoy(1, 60, 60, 50, 53);
        y.pass(13);
        drillAll(y);
        y.start(0);
        c.due("54.3 tonnes are borne through a crack", 18, () -> y.rolls(0));
        c.due("the same by rolling in a copy", 18, () -> y.rollsAgain(0));
    }
}
