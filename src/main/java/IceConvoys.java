import java.util.NoSuchElementException;

/**
 * A road over ice with its weather, drills, trucks, convoys, texts of orders, undo and a snapshot.
 *
 * All that changes can change stands in a Road; undo, the snapshot and trying out are copies of
 * it into roads that the constructor made, so that a call makes no object but a new truck.
 */
public final class IceConvoys {
    private static final int MILES = 12;
    private static final int ROWS = 2;
    private static final int PLACES = 5;
    private static final int CONVOYS = 4;
    private static final int TRUCKS = 4;
    private static final int WIDEST_GAP = 3;
    private static final int MOST_CRACKS = 5;
    private static final int STRAIN_OF_A_CRACK = 20;
    private static final int CHARACTERS = 60;
    private static final int UNDONE_AT_MOST = 8;

    /** From the lead 0 until the last truck of the longest convoy has arrived. */
    private static final int ROLLS_AT_MOST = MILES + (TRUCKS - 1) * (WIDEST_GAP + 1);

    private static final int TEMPERATURE = 0;
    private static final int LIMIT = 1;
    private static final int GOOD_DAYS = 2;
    private static final int[] LOWEST_SETTING = {-40, 0, 1};
    private static final int[] HIGHEST_SETTING = {10, 100, 14};

    private static final int FOUR_ALREADY = 1;
    private static final int ROW_FULL = 2;
    private static final int ROW_FOR_OTHER_KIND = 3;
    private static final int STARTED_OR_NOT = 4;
    private static final int NO_TRUCKS = 5;
    private static final int CONVOY_DONE = 6;
    private static final int MILE_TAKEN = 7;
    private static final int MILE_TOO_WEAK = 8;

    // What stands in the way of a call: a reason with its detail in one number above 0, or one of these.
    private static final int NOTHING = 0;
    private static final int NO_SUCH = -1;
    private static final int NO_TRUCK_THERE = -2;
    private static final int OUT_OF_RANGE = -3;
    private static final int DETAILS = 16;

    private final Road now = new Road();
    private final Road trial = new Road();
    private final Road snapshot = new Road();
    private boolean hasSnapshot = false;
    private final History history = new History();
    private final Orders orders = new Orders();
    private int errorOffset = -1;
    private int lastRefusal = NOTHING;

    public IceConvoys() {
    }

    // Weather and miles

    public int set(int what, int value) throws IllegalArgumentException {
        if (!isSettingValue(what, value)) {
            throw new IllegalArgumentException("no such setting, or its value is out of range");
        }
        history.keep(now);
        int before = now.settings[what];
        now.settings[what] = value;
        return before;
    }

    public int setting(int what) throws IllegalArgumentException {
        if (!isSetting(what)) {
            throw new IllegalArgumentException("no such setting");
        }
        return now.settings[what];
    }

    public int drill(int mile) throws IndexOutOfBoundsException {
        if (!isMile(mile)) {
            throw new IndexOutOfBoundsException("no such mile");
        }
        history.keep(now);
        now.noteIce(now.miles[mile]);
        return floatBits(now.miles[mile].noted);
    }

    public int drilled(int mile) throws IndexOutOfBoundsException, NoSuchElementException {
        if (!isMile(mile)) {
            throw new IndexOutOfBoundsException("no such mile");
        }
        if (now.miles[mile].drillDay < 0) {
            throw new NoSuchElementException("the mile was never drilled");
        }
        return floatBits(now.miles[mile].noted);
    }

    public int mileOf(int mile, int what) throws IndexOutOfBoundsException, IllegalArgumentException {
        if (!isMile(mile)) {
            throw new IndexOutOfBoundsException("no such mile");
        }
        Mile asked = now.miles[mile];
        switch (what) {
            case 0:
                return asked.cracks;
            case 1:
                return asked.strain;
            case 2:
                return asked.drillDay;
            case 3:
                return now.isDrillGood(asked) ? 1 : 0;
            case 4:
                return asked.visits;
            default:
                throw new IllegalArgumentException("no such number of a mile");
        }
    }

    public float ice(int mile) throws IndexOutOfBoundsException {
        if (!isMile(mile)) {
            throw new IndexOutOfBoundsException("no such mile");
        }
        return now.miles[mile].thickness;
    }

    public int bears(int mile) throws IndexOutOfBoundsException {
        if (!isMile(mile)) {
            throw new IndexOutOfBoundsException("no such mile");
        }
        return floatBits(now.borneByDrill(now.miles[mile]));
    }

    public char sign(int mile) throws IndexOutOfBoundsException {
        if (!isMile(mile)) {
            throw new IndexOutOfBoundsException("no such mile");
        }
        if (now.convoyAt(mile) >= 0) {
            return 'T';
        }
        Mile asked = now.miles[mile];
        return now.isDrillGood(asked) ? (char) ('0' + asked.cracks) : '?';
    }

    public int weakest() {
        int weakest = 0;
        float least = now.borneByDrill(now.miles[0]);
        for (int mile = 1; mile < MILES; mile++) {
            float borne = now.borneByDrill(now.miles[mile]);
            if (borne < least) {
                least = borne;
                weakest = mile;
            }
        }
        return weakest;
    }

    // Trucks and convoys

    public int truck(int kind, int weight, int axles, int row)
            throws IndexOutOfBoundsException, IllegalArgumentException, UnsupportedOperationException {
        if (!isRow(row)) {
            throw new IndexOutOfBoundsException("no such row");
        }
        if (kind < 0 || kind > 1 || weight < 5 || weight > 60 || axles < 2 || axles > 6) {
            throw new IllegalArgumentException("the kind, the weight or the axles are out of range");
        }
        int place = now.freePlace(row);
        if (place < 0) {
            lastRefusal = refusalFor(ROW_FULL, row);
            throw new UnsupportedOperationException("the row is full");
        }
        if (kind != row) {
            lastRefusal = refusalFor(ROW_FOR_OTHER_KIND, row);
            throw new UnsupportedOperationException("the row is for the other kind");
        }
        history.keep(now);
        now.rows[row * PLACES + place] = new Truck(kind, weight, axles);
        now.tonnesCame += weight;
        return place;
    }

    public int inRow(int row, int place, int what)
            throws IndexOutOfBoundsException, NoSuchElementException, IllegalArgumentException {
        if (!isRow(row) || !isPlace(place)) {
            throw new IndexOutOfBoundsException("no such row or place");
        }
        Truck asked = now.rows[row * PLACES + place];
        if (asked == null) {
            throw new NoSuchElementException("no truck is at the place");
        }
        if (what < 0 || what > 1) {
            throw new IllegalArgumentException("no such number of a truck");
        }
        return what == 0 ? asked.weight : asked.axles;
    }

    public int convoy(int gap) throws IllegalArgumentException, UnsupportedOperationException {
        if (gap < 1 || gap > WIDEST_GAP) {
            throw new IllegalArgumentException("the gap is out of range");
        }
        int number = now.convoyCount;
        if (number >= CONVOYS) {
            lastRefusal = refusalFor(FOUR_ALREADY, CONVOYS);
            throw new UnsupportedOperationException("there are 4 convoys");
        }
        history.keep(now);
        now.convoys[number].gap = gap;
        now.convoyCount = number + 1;
        return number;
    }

    public int join(int convoy, int row, int place)
            throws IndexOutOfBoundsException, NoSuchElementException, UnsupportedOperationException {
        int obstacle = now.joinObstacle(convoy, row, place);
        if (obstacle == NO_SUCH) {
            throw new IndexOutOfBoundsException("no such convoy, row or place");
        }
        if (obstacle == NO_TRUCK_THERE) {
            throw new NoSuchElementException("no truck is at the place");
        }
        if (obstacle != NOTHING) {
            lastRefusal = obstacle;
            throw new UnsupportedOperationException("the truck may not join");
        }
        history.keep(now);
        now.letJoin(now.convoys[convoy], row * PLACES + place);
        return now.convoys[convoy].size;
    }

    public int start(int convoy) throws IndexOutOfBoundsException, UnsupportedOperationException {
        int obstacle = now.startObstacle(convoy);
        if (obstacle == NO_SUCH) {
            throw new IndexOutOfBoundsException("no such convoy");
        }
        if (obstacle != NOTHING) {
            lastRefusal = obstacle;
            throw new UnsupportedOperationException("the convoy may not start");
        }
        history.keep(now);
        now.advance(now.convoys[convoy]);
        return now.convoys[convoy].size;
    }

    public int roll(int convoy) throws IndexOutOfBoundsException, UnsupportedOperationException {
        int obstacle = now.rollObstacle(convoy);
        if (obstacle == NO_SUCH) {
            throw new IndexOutOfBoundsException("no such convoy");
        }
        if (obstacle != NOTHING) {
            lastRefusal = obstacle;
            throw new UnsupportedOperationException("the convoy may not roll");
        }
        history.keep(now);
        now.advance(now.convoys[convoy]);
        return now.convoys[convoy].countOnRoad();
    }

    public int why(int convoy, boolean isDetail) throws IndexOutOfBoundsException {
        int obstacle = now.rollObstacle(convoy);
        if (obstacle == NO_SUCH) {
            throw new IndexOutOfBoundsException("no such convoy");
        }
        return isDetail ? obstacle % DETAILS : obstacle / DETAILS;
    }

    public int convoyOf(int convoy, int what) throws IndexOutOfBoundsException, IllegalArgumentException {
        if (!now.isConvoy(convoy)) {
            throw new IndexOutOfBoundsException("no such convoy");
        }
        Convoy asked = now.convoys[convoy];
        switch (what) {
            case 0:
                return asked.gap;
            case 1:
                return asked.size;
            case 2:
                return asked.lead;
            case 3:
                return asked.countOnRoad();
            case 4:
                return asked.countArrived();
            case 5:
                return asked.isDone() ? 1 : 0;
            default:
                throw new IllegalArgumentException("no such number of a convoy");
        }
    }

    public int truckOf(int convoy, int place, int what) throws IndexOutOfBoundsException, IllegalArgumentException {
        Truck asked = now.truckIn(convoy, place);
        if (asked == null) {
            throw new IndexOutOfBoundsException("no such convoy or place");
        }
        switch (what) {
            case 0:
                return asked.kind;
            case 1:
                return asked.weight;
            case 2:
                return asked.axles;
            case 3:
                return now.convoys[convoy].mileOfTruck(place);
            default:
                throw new IllegalArgumentException("no such number of a truck");
        }
    }

    public float load(int convoy, int place) throws IndexOutOfBoundsException {
        Truck asked = now.truckIn(convoy, place);
        if (asked == null) {
            throw new IndexOutOfBoundsException("no such convoy or place");
        }
        return asked.burden();
    }

    public int at(int mile) throws IndexOutOfBoundsException, NoSuchElementException {
        if (!isMile(mile)) {
            throw new IndexOutOfBoundsException("no such mile");
        }
        int convoy = now.convoyAt(mile);
        if (convoy < 0) {
            throw new NoSuchElementException("no truck is at the mile");
        }
        return 10 * convoy + now.convoys[convoy].placeAt(mile);
    }

    // Ahead and days

    public int rolls(int convoy) throws IndexOutOfBoundsException {
        if (!now.isConvoy(convoy)) {
            throw new IndexOutOfBoundsException("no such convoy");
        }
        return now.countRollsAhead(convoy);
    }

    public int rollsAgain(int convoy) throws IndexOutOfBoundsException {
        if (!now.isConvoy(convoy)) {
            throw new IndexOutOfBoundsException("no such convoy");
        }
        trial.copyFrom(now);
        int count = 0;
        while (count < ROLLS_AT_MOST && trial.rollObstacle(convoy) == NOTHING) {
            trial.advance(trial.convoys[convoy]);
            count++;
        }
        return count;
    }

    public int iceIn(int mile, int days) throws IndexOutOfBoundsException, IllegalArgumentException {
        if (!isMile(mile)) {
            throw new IndexOutOfBoundsException("no such mile");
        }
        if (days < 0 || days > 60) {
            throw new IllegalArgumentException("the number of days is out of range");
        }
        float thickness = now.miles[mile].thickness;
        for (int day = 0; day < days; day++) {
            thickness = nextIce(thickness, now.settings[TEMPERATURE]);
        }
        return floatBits(thickness);
    }

    public int bearsIn(int mile, int tonnes)
            throws IndexOutOfBoundsException, IllegalArgumentException, NoSuchElementException {
        if (!isMile(mile)) {
            throw new IndexOutOfBoundsException("no such mile");
        }
        if (tonnes < 1 || tonnes > 99) {
            throw new IllegalArgumentException("the number of tonnes is out of range");
        }
        float thickness = now.miles[mile].thickness;
        for (int day = 0; day <= 90; day++) {
            if (thickness * thickness * 0.04f >= (float) tonnes) {
                return day;
            }
            thickness = nextIce(thickness, now.settings[TEMPERATURE]);
        }
        throw new NoSuchElementException("the ice would not bear that within 90 days");
    }

    public int pass(int days) throws IllegalArgumentException {
        if (!isDaysToPass(days)) {
            throw new IllegalArgumentException("the number of days is out of range");
        }
        history.keep(now);
        int goodBefore = now.countGoodDrills();
        now.letDaysGoBy(days);
        return goodBefore - now.countGoodDrills();
    }

    // Texts, accounts, undo and snapshot

    public int append(char c) throws IllegalStateException {
        if (orders.length >= CHARACTERS) {
            throw new IllegalStateException("the input contains 60 characters");
        }
        orders.text[orders.length] = c;
        orders.length++;
        return orders.length;
    }

    public int read() throws IllegalArgumentException, UnsupportedOperationException {
        errorOffset = orders.parse();
        orders.length = 0;
        if (errorOffset >= 0) {
            throw new IllegalArgumentException("the text has an error");
        }
        trial.copyFrom(now);
        for (int order = 0; order < orders.count; order++) {
            int obstacle = orders.carryOut(order, trial);
            if (obstacle < NOTHING) {
                throw new IllegalArgumentException("an order of the text cannot be carried out");
            }
            if (obstacle > NOTHING) {
                lastRefusal = obstacle;
                throw new UnsupportedOperationException("an order of the text is refused");
            }
        }
        history.keep(now);
        now.copyFrom(trial);
        return orders.count;
    }

    public int errorPosition() {
        return errorOffset;
    }

    public int refusal(boolean isDetail) throws NoSuchElementException {
        if (lastRefusal == NOTHING) {
            throw new NoSuchElementException("nothing was refused");
        }
        return isDetail ? lastRefusal % DETAILS : lastRefusal / DETAILS;
    }

    public int account(int what) throws IllegalArgumentException {
        switch (what) {
            case 0:
                return now.day;
            case 1:
                return now.countInRows();
            case 2:
                return now.convoyCount;
            case 3:
                return now.countStarted() - now.countDone();
            case 4:
                return now.countDone();
            case 5:
                return now.countOnRoad();
            case 6:
                return now.countArrived();
            case 7:
                return now.tonnesDelivered;
            case 8:
                return now.tonnesCame - now.tonnesDelivered;
            case 9:
                return now.countCracks();
            case 10:
                return now.countGoodDrills();
            case 11:
                return now.drills;
            case 12:
                return now.tonnesCame;
            case 13:
                return orders.length;
            case 14:
                return history.count;
            default:
                throw new IllegalArgumentException("no such account");
        }
    }

    public boolean isWell() {
        return now.tonnesCame == now.tonnesDelivered + now.tonnesInRows() + now.tonnesUnderWay()
                && now.hasOneTruckAMile() && now.isIceInRange();
    }

    public long meanBits() {
        double sum = 0.0;
        for (int mile = 0; mile < MILES; mile++) {
            sum = sum + (double) now.miles[mile].thickness;
        }
        return doubleBits(sum / 12.0);
    }

    public float share() throws ArithmeticException {
        if (now.tonnesCame == 0) {
            throw new ArithmeticException("no tonnes came");
        }
        return (float) now.tonnesDelivered / (float) now.tonnesCame;
    }

    public int undo() throws IllegalStateException {
        if (history.count == 0) {
            throw new IllegalStateException("no change can be undone");
        }
        history.takeBack(now);
        return history.count;
    }

    public int save() {
        snapshot.copyFrom(now);
        hasSnapshot = true;
        return now.convoyCount;
    }

    public int restore() throws IllegalStateException {
        if (!hasSnapshot) {
            throw new IllegalStateException("there is no snapshot");
        }
        now.copyFrom(snapshot);
        history.count = 0;
        return now.convoyCount;
    }

    // Ranges, reasons and ice

    private static boolean isSetting(int what) {
        return what >= 0 && what < LOWEST_SETTING.length;
    }

    private static boolean isSettingValue(int what, int value) {
        return isSetting(what) && value >= LOWEST_SETTING[what] && value <= HIGHEST_SETTING[what];
    }

    private static boolean isMile(int mile) {
        return mile >= 0 && mile < MILES;
    }

    private static boolean isRow(int row) {
        return row >= 0 && row < ROWS;
    }

    private static boolean isPlace(int place) {
        return place >= 0 && place < PLACES;
    }

    private static boolean isDaysToPass(int days) {
        return days >= 1 && days <= 30;
    }

    private static int refusalFor(int reason, int detail) {
        return reason * DETAILS + detail;
    }

    private static float nextIce(float thickness, int temperature) {
        float next = temperature < 0
                ? thickness + ((float) -temperature * 1.5f / (thickness + 10.0f))
                : thickness - (0.4f * (float) temperature);
        if (next < 0.0f) {
            return 0.0f;
        }
        return next > 200.0f ? 200.0f : next;
    }

    private static float borneBy(float thickness, int cracks, int limit) {
        return thickness * thickness * 0.04f * (1.0f - (0.1f * (float) cracks)) * ((float) limit / 100.0f);
    }

    /**
     * The bits of a finite value of 0.0f or more. They are reckoned, since LANGUAGE.md lists no
     * library call for them: doubling and halving are exact, so nothing is rounded on the way.
     */
    private static int floatBits(float value) {
        if (value <= 0.0f) {
            return 0;
        }
        float scaled = value;
        int exponent = 127;
        while (exponent < 254 && scaled >= 2.0f) {
            scaled = scaled / 2.0f;
            exponent++;
        }
        while (exponent > 1 && scaled < 1.0f) {
            scaled = scaled * 2.0f;
            exponent--;
        }
        // The leading one of a normal value carries into the exponent, a subnormal value has none.
        return ((exponent - 1) << 23) + (int) (scaled * 8388608.0f);
    }

    /** The same as floatBits for a double. */
    private static long doubleBits(double value) {
        if (value <= 0.0) {
            return 0L;
        }
        double scaled = value;
        int exponent = 1023;
        while (exponent < 2046 && scaled >= 2.0) {
            scaled = scaled / 2.0;
            exponent++;
        }
        while (exponent > 1 && scaled < 1.0) {
            scaled = scaled * 2.0;
            exponent--;
        }
        return ((long) (exponent - 1) << 52) + (long) (scaled * 4503599627370496.0);
    }

    /** Never changes, so that all copies of a road may hold the same truck. */
    private static final class Truck {
        final int kind;
        final int weight;
        final int axles;

        Truck(int kind, int weight, int axles) {
            this.kind = kind;
            this.weight = weight;
            this.axles = axles;
        }

        float burden() {
            return kind == 0 ? (float) weight : (float) weight + (0.5f * (float) axles);
        }

        int strainOnIce() {
            return weight / 10 + 1;
        }
    }

    private static final class Mile {
        float thickness = 30.0f;
        float noted = 0.0f;
        int drillDay = -1;
        int cracks = 0;
        int strain = 0;
        int visits = 0;

        void copyFrom(Mile other) {
            thickness = other.thickness;
            noted = other.noted;
            drillDay = other.drillDay;
            cracks = other.cracks;
            strain = other.strain;
            visits = other.visits;
        }

        void carry(Truck truck) {
            visits++;
            strain += truck.strainOnIce();
            if (strain >= STRAIN_OF_A_CRACK) {
                strain -= STRAIN_OF_A_CRACK;
                cracks = Math.min(cracks + 1, MOST_CRACKS);
            }
        }

        int cracksAfter(int moreStrain) {
            return Math.min(cracks + (strain + moreStrain) / STRAIN_OF_A_CRACK, MOST_CRACKS);
        }

        void liveThroughDay(int temperature) {
            thickness = nextIce(thickness, temperature);
            if (temperature < -20) {
                cracks = Math.max(cracks - 1, 0);
            }
        }
    }

    /** The trucks stand in places 0 to size - 1; the places behind them are null. */
    private static final class Convoy {
        int gap = 1;
        int lead = -1;
        int size = 0;
        final Truck[] trucks = new Truck[TRUCKS];

        void copyFrom(Convoy other) {
            gap = other.gap;
            lead = other.lead;
            size = other.size;
            for (int place = 0; place < TRUCKS; place++) {
                trucks[place] = other.trucks[place];
            }
        }

        boolean hasStarted() {
            return lead >= 0;
        }

        boolean isDone() {
            return hasStarted() && countArrived() == size;
        }

        int mileWithLead(int place, int someLead) {
            return someLead - place * (gap + 1);
        }

        int mileOfTruck(int place) {
            return hasStarted() ? mileWithLead(place, lead) : -1;
        }

        int countOnRoad() {
            int count = 0;
            for (int place = 0; place < size; place++) {
                if (isMile(mileOfTruck(place))) {
                    count++;
                }
            }
            return count;
        }

        int countArrived() {
            int count = 0;
            for (int place = 0; place < size; place++) {
                if (mileOfTruck(place) >= MILES) {
                    count++;
                }
            }
            return count;
        }

        /** A lead of -1 puts no truck at a mile, so a convoy that has not started needs no test. */
        int placeAt(int mile) {
            for (int place = 0; place < size; place++) {
                if (mileWithLead(place, lead) == mile) {
                    return place;
                }
            }
            return -1;
        }

        int tonnesNotArrived() {
            int tonnes = 0;
            for (int place = 0; place < TRUCKS; place++) {
                Truck truck = trucks[place];
                if (truck != null && mileOfTruck(place) < MILES) {
                    tonnes += truck.weight;
                }
            }
            return tonnes;
        }

        /** The strain that the trucks ahead of a place will have put on a mile when its truck comes there. */
        int strainAheadOf(int ownPlace, int mile) {
            int strain = 0;
            for (int place = 0; place < ownPlace && place < TRUCKS; place++) {
                Truck truck = trucks[place];
                // A truck that is at the mile already or has passed it put its strain there before.
                if (truck != null && mileOfTruck(place) < mile) {
                    strain += truck.strainOnIce();
                }
            }
            return strain;
        }
    }

    /** All that changes can change. */
    private static final class Road {
        final int[] settings = {-20, 100, 7};
        int day = 0;
        final Mile[] miles = new Mile[MILES];
        final Truck[] rows = new Truck[ROWS * PLACES];
        final Convoy[] convoys = new Convoy[CONVOYS];
        int convoyCount = 0;
        int drills = 0;
        int tonnesCame = 0;
        int tonnesDelivered = 0;

        Road() {
            for (int mile = 0; mile < MILES; mile++) {
                miles[mile] = new Mile();
            }
            for (int convoy = 0; convoy < CONVOYS; convoy++) {
                convoys[convoy] = new Convoy();
            }
        }

        void copyFrom(Road other) {
            for (int what = 0; what < settings.length; what++) {
                settings[what] = other.settings[what];
            }
            day = other.day;
            for (int mile = 0; mile < MILES; mile++) {
                miles[mile].copyFrom(other.miles[mile]);
            }
            for (int place = 0; place < rows.length; place++) {
                rows[place] = other.rows[place];
            }
            for (int convoy = 0; convoy < CONVOYS; convoy++) {
                convoys[convoy].copyFrom(other.convoys[convoy]);
            }
            convoyCount = other.convoyCount;
            drills = other.drills;
            tonnesCame = other.tonnesCame;
            tonnesDelivered = other.tonnesDelivered;
        }

        boolean isConvoy(int convoy) {
            return convoy >= 0 && convoy < convoyCount && convoy < CONVOYS;
        }

        Truck truckIn(int convoy, int place) {
            if (!isConvoy(convoy) || place < 0 || place >= TRUCKS) {
                return null;
            }
            return convoys[convoy].trucks[place];
        }

        void noteIce(Mile mile) {
            mile.noted = mile.thickness;
            mile.drillDay = day;
            drills++;
        }

        boolean isDrillGood(Mile mile) {
            return mile.drillDay >= 0 && day - mile.drillDay <= settings[GOOD_DAYS];
        }

        float borneByDrill(Mile mile) {
            return borneWithCracks(mile, mile.cracks);
        }

        float borneWithCracks(Mile mile, int cracks) {
            return isDrillGood(mile) ? borneBy(mile.noted, cracks, settings[LIMIT]) : 0.0f;
        }

        int freePlace(int row) {
            for (int place = 0; place < PLACES; place++) {
                if (rows[row * PLACES + place] == null) {
                    return place;
                }
            }
            return -1;
        }

        int convoyAt(int mile) {
            for (int convoy = 0; convoy < convoyCount; convoy++) {
                if (convoys[convoy].placeAt(mile) >= 0) {
                    return convoy;
                }
            }
            return -1;
        }

        boolean isTakenByOther(int mile, int ownConvoy) {
            for (int convoy = 0; convoy < convoyCount; convoy++) {
                if (convoy != ownConvoy && convoys[convoy].placeAt(mile) >= 0) {
                    return true;
                }
            }
            return false;
        }

        int joinObstacle(int convoy, int row, int place) {
            if (!isConvoy(convoy) || !isRow(row) || !isPlace(place)) {
                return NO_SUCH;
            }
            if (rows[row * PLACES + place] == null) {
                return NO_TRUCK_THERE;
            }
            if (convoys[convoy].hasStarted()) {
                return refusalFor(STARTED_OR_NOT, convoy);
            }
            return convoys[convoy].size < TRUCKS ? NOTHING : refusalFor(FOUR_ALREADY, TRUCKS);
        }

        int startObstacle(int convoy) {
            if (!isConvoy(convoy)) {
                return NO_SUCH;
            }
            if (convoys[convoy].hasStarted()) {
                return refusalFor(STARTED_OR_NOT, convoy);
            }
            if (convoys[convoy].size == 0) {
                return refusalFor(NO_TRUCKS, convoy);
            }
            return wayObstacle(convoy);
        }

        int rollObstacle(int convoy) {
            if (!isConvoy(convoy)) {
                return NO_SUCH;
            }
            if (!convoys[convoy].hasStarted()) {
                return refusalFor(STARTED_OR_NOT, convoy);
            }
            if (convoys[convoy].isDone()) {
                return refusalFor(CONVOY_DONE, convoy);
            }
            return wayObstacle(convoy);
        }

        /** What stands in the way of the lead becoming 1 more, which a start is too. */
        int wayObstacle(int convoy) {
            Convoy moving = convoys[convoy];
            int lead = moving.lead + 1;
            for (int place = 0; place < TRUCKS; place++) {
                int mile = moving.mileWithLead(place, lead);
                if (moving.trucks[place] != null && isMile(mile) && isTakenByOther(mile, convoy)) {
                    return refusalFor(MILE_TAKEN, mile);
                }
            }
            for (int place = 0; place < TRUCKS; place++) {
                int mile = moving.mileWithLead(place, lead);
                Truck truck = moving.trucks[place];
                if (truck != null && isMile(mile) && borneByDrill(miles[mile]) < truck.burden()) {
                    return refusalFor(MILE_TOO_WEAK, mile);
                }
            }
            return NOTHING;
        }

        void letJoin(Convoy convoy, int slot) {
            convoy.trucks[convoy.size] = rows[slot];
            convoy.size++;
            rows[slot] = null;
        }

        void advance(Convoy convoy) {
            convoy.lead++;
            for (int place = 0; place < TRUCKS; place++) {
                Truck truck = convoy.trucks[place];
                int mile = convoy.mileOfTruck(place);
                if (truck != null && isMile(mile)) {
                    miles[mile].carry(truck);
                }
                if (truck != null && mile == MILES) {
                    tonnesDelivered += truck.weight;
                }
            }
        }

        /** Reckons, without rolling, which cracks each truck would find where it comes. */
        int countRollsAhead(int convoy) {
            Convoy rolling = convoys[convoy];
            if (!rolling.hasStarted()) {
                return 0;
            }
            int lastLead = MILES + (rolling.size - 1) * (rolling.gap + 1);
            int lead = rolling.lead;
            while (lead < lastLead && couldLeadBe(convoy, lead + 1)) {
                lead++;
            }
            return lead - rolling.lead;
        }

        boolean couldLeadBe(int convoy, int lead) {
            Convoy rolling = convoys[convoy];
            for (int place = 0; place < TRUCKS; place++) {
                Truck truck = rolling.trucks[place];
                int mile = rolling.mileWithLead(place, lead);
                if (truck != null && isMile(mile)) {
                    int cracks = miles[mile].cracksAfter(rolling.strainAheadOf(place, mile));
                    if (isTakenByOther(mile, convoy) || borneWithCracks(miles[mile], cracks) < truck.burden()) {
                        return false;
                    }
                }
            }
            return true;
        }

        void letDaysGoBy(int days) {
            for (int passed = 0; passed < days; passed++) {
                for (int mile = 0; mile < MILES; mile++) {
                    miles[mile].liveThroughDay(settings[TEMPERATURE]);
                }
                day++;
            }
        }

        int countGoodDrills() {
            int count = 0;
            for (int mile = 0; mile < MILES; mile++) {
                if (isDrillGood(miles[mile])) {
                    count++;
                }
            }
            return count;
        }

        int countCracks() {
            int count = 0;
            for (int mile = 0; mile < MILES; mile++) {
                count += miles[mile].cracks;
            }
            return count;
        }

        int countInRows() {
            int count = 0;
            for (int place = 0; place < rows.length; place++) {
                if (rows[place] != null) {
                    count++;
                }
            }
            return count;
        }

        int countStarted() {
            int count = 0;
            for (int convoy = 0; convoy < convoyCount; convoy++) {
                if (convoys[convoy].hasStarted()) {
                    count++;
                }
            }
            return count;
        }

        int countDone() {
            int count = 0;
            for (int convoy = 0; convoy < convoyCount; convoy++) {
                if (convoys[convoy].isDone()) {
                    count++;
                }
            }
            return count;
        }

        int countOnRoad() {
            int count = 0;
            for (int convoy = 0; convoy < convoyCount; convoy++) {
                count += convoys[convoy].countOnRoad();
            }
            return count;
        }

        int countArrived() {
            int count = 0;
            for (int convoy = 0; convoy < convoyCount; convoy++) {
                count += convoys[convoy].countArrived();
            }
            return count;
        }

        int tonnesInRows() {
            int tonnes = 0;
            for (int place = 0; place < rows.length; place++) {
                Truck truck = rows[place];
                if (truck != null) {
                    tonnes += truck.weight;
                }
            }
            return tonnes;
        }

        int tonnesUnderWay() {
            int tonnes = 0;
            for (int convoy = 0; convoy < convoyCount; convoy++) {
                tonnes += convoys[convoy].tonnesNotArrived();
            }
            return tonnes;
        }

        boolean hasOneTruckAMile() {
            int seen = 0;
            for (int convoy = 0; convoy < convoyCount; convoy++) {
                for (int place = 0; place < convoys[convoy].size; place++) {
                    int mile = convoys[convoy].mileOfTruck(place);
                    if (isMile(mile)) {
                        if ((seen & (1 << mile)) != 0) {
                            return false;
                        }
                        seen |= 1 << mile;
                    }
                }
            }
            return true;
        }

        boolean isIceInRange() {
            for (int mile = 0; mile < MILES; mile++) {
                if (miles[mile].thickness < 0.0f || miles[mile].thickness > 200.0f) {
                    return false;
                }
            }
            return true;
        }
    }

    /** The roads before the latest changes, in a ring. */
    private static final class History {
        final Road[] kept = new Road[UNDONE_AT_MOST];
        int next = 0;
        int count = 0;

        History() {
            for (int change = 0; change < UNDONE_AT_MOST; change++) {
                kept[change] = new Road();
            }
        }

        void keep(Road road) {
            kept[next].copyFrom(road);
            next = (next + 1) % UNDONE_AT_MOST;
            count = Math.min(count + 1, UNDONE_AT_MOST);
        }

        void takeBack(Road road) {
            next = (next + UNDONE_AT_MOST - 1) % UNDONE_AT_MOST;
            road.copyFrom(kept[next]);
            count--;
        }
    }

    /** The input and, once it is parsed without an error, the orders in it. */
    private static final class Orders {
        /** The shortest order and its semicolon take three characters. */
        private static final int ORDERS_AT_MOST = CHARACTERS / 3;

        final char[] text = new char[CHARACTERS];
        int length = 0;
        int offset = 0;
        int count = 0;
        final int[] letters = new int[ORDERS_AT_MOST];
        final int[] firsts = new int[ORDERS_AT_MOST];
        final int[] seconds = new int[ORDERS_AT_MOST];
        final int[] thirds = new int[ORDERS_AT_MOST];

        /** Returns the error position, or -1. */
        int parse() {
            offset = 0;
            count = 0;
            while (count < ORDERS_AT_MOST) {
                if (!parseOrder()) {
                    return offset;
                }
                count++;
                if (offset >= length) {
                    return -1;
                }
                if (!skip(';')) {
                    return offset;
                }
            }
            // So many orders with a semicolon behind each fill the input: the text ends too early.
            return offset;
        }

        private boolean parseOrder() {
            int letter = offset < length ? text[offset] : ' ';
            letters[count] = letter;
            switch (letter) {
                case 'd':
                case 'p':
                    offset++;
                    firsts[count] = parseNumber();
                    return firsts[count] >= 0;
                case 's':
                case 'r':
                    offset++;
                    firsts[count] = parseDigit();
                    return firsts[count] >= 0;
                case 't':
                    offset++;
                    return parseTemperature();
                case 'j':
                    offset++;
                    return parseJoin();
                default:
                    return false;
            }
        }

        private boolean parseTemperature() {
            boolean isMinus = skip('-');
            int number = parseNumber();
            firsts[count] = isMinus ? -number : number;
            return number >= 0;
        }

        private boolean parseJoin() {
            firsts[count] = parseDigit();
            if (firsts[count] < 0 || !skip(':')) {
                return false;
            }
            seconds[count] = parseDigit();
            if (seconds[count] < 0 || !skip('.')) {
                return false;
            }
            thirds[count] = parseDigit();
            return thirds[count] >= 0;
        }

        private boolean skip(char expected) {
            if (offset >= length || text[offset] != expected) {
                return false;
            }
            offset++;
            return true;
        }

        /** Returns one or two digits as a number, -1 if there are none. */
        private int parseNumber() {
            int first = parseDigit();
            if (first < 0) {
                return -1;
            }
            int second = parseDigit();
            return second < 0 ? first : 10 * first + second;
        }

        private int parseDigit() {
            if (offset >= length || text[offset] < '0' || text[offset] > '9') {
                return -1;
            }
            int digit = text[offset] - '0';
            offset++;
            return digit;
        }

        /** Changes the road as an order asks, unless something is in the way, which is returned. */
        int carryOut(int order, Road road) {
            int first = firsts[order];
            switch (letters[order]) {
                case 'd':
                    return carryOutDrill(first, road);
                case 's':
                    return carryOutMove(first, road.startObstacle(first), road);
                case 'r':
                    return carryOutMove(first, road.rollObstacle(first), road);
                case 't':
                    return carryOutTemperature(first, road);
                case 'j':
                    return carryOutJoin(order, road);
                case 'p':
                    return carryOutDays(first, road);
                default:
                    return NO_SUCH;
            }
        }

        private static int carryOutDrill(int mile, Road road) {
            if (!isMile(mile)) {
                return NO_SUCH;
            }
            road.noteIce(road.miles[mile]);
            return NOTHING;
        }

        private static int carryOutMove(int convoy, int obstacle, Road road) {
            if (obstacle == NOTHING) {
                road.advance(road.convoys[convoy]);
            }
            return obstacle;
        }

        private static int carryOutTemperature(int temperature, Road road) {
            if (!isSettingValue(TEMPERATURE, temperature)) {
                return OUT_OF_RANGE;
            }
            road.settings[TEMPERATURE] = temperature;
            return NOTHING;
        }

        private int carryOutJoin(int order, Road road) {
            int obstacle = road.joinObstacle(firsts[order], seconds[order], thirds[order]);
            if (obstacle == NOTHING) {
                road.letJoin(road.convoys[firsts[order]], seconds[order] * PLACES + thirds[order]);
            }
            return obstacle;
        }

        private static int carryOutDays(int days, Road road) {
            if (!isDaysToPass(days)) {
                return OUT_OF_RANGE;
            }
            road.letDaysGoBy(days);
            return NOTHING;
        }
    }
}
