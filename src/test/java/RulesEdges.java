/** The sentences of the Terms on days, texts, reasons, undo and exceptions, "In doubt, too" among them. */
final class RulesEdges extends Edges {
    @Says(in = "Terms", sentence = "becomes, if the temperature is below 0, (the temperature without its sign as a float, times 1.5f")
    void growsBelow0() {
        dueIceAfterADay(-1, 30.0f + (1.0f * 1.5f / (30.0f + 10.0f)));
        dueIceAfterADay(-40, 30.0f + (40.0f * 1.5f / (30.0f + 10.0f)));
        IceConvoys x = withoutIce();
        x.set(0, -40);
        x.pass(1);
        c.due("grown from none", 6.0f, () -> x.ice(0));
    }

    @Says(in = "Terms", sentence = "and otherwise (0.4f times the temperature as a float) less")
    void meltsFrom0On() {
        dueIceAfterADay(0, 30.0f);
        dueIceAfterADay(1, 30.0f - (0.4f * 1.0f));
        dueIceAfterADay(10, 30.0f - (0.4f * 10.0f));
    }

    private void dueIceAfterADay(int temperature, float ice) {
        IceConvoys x = new IceConvoys();
        x.set(0, temperature);
        x.pass(1);
        for (int mile = 0; mile < 12; mile++) {
            int m = mile;
            c.due("ice after a day of " + temperature, ice, () -> x.ice(m));
        }
    }

    @Says(in = "Terms", sentence = "but at least 0.0f")
    void meltsToNothing() {
        IceConvoys x = new IceConvoys();
        x.set(0, 5);
        x.pass(14);
        c.due("2.0f are left", 2.0f, () -> x.ice(0));
        x.pass(1);
        c.due("just nothing is left", 0.0f, () -> x.ice(0));
        x.pass(1);
        c.due("not less", 0.0f, () -> x.ice(0));
        IceConvoys y = new IceConvoys();
        y.set(0, 10);
        y.pass(7);
        c.due("less is left than a day melts", true, () -> y.ice(0) > 0.0f && y.ice(0) < 4.0f);
        y.pass(1);
        c.due("not less than 0.0f", 0.0f, () -> y.ice(0));
        IceConvoys z = new IceConvoys();
        z.set(0, 1);
        z.pass(30);
        z.pass(30);
        z.pass(15);
        float rest = 30.0f;
        for (int day = 0; day < 75; day++) {
            rest = rest - (0.4f * 1.0f);
        }
        float left = rest;
        c.due("a last bit of ice, some 0.00002f, is left", left, () -> z.ice(0));
        c.due("it is ice", true, () -> left > 0.0f && left < 0.0001f);
        z.drill(0);
        c.due("it is noted", bits(left), () -> z.drilled(0));
        c.due("it bears", bits(left * left * 0.04f), () -> z.bears(0));
        z.pass(1);
        c.due("nothing is left", 0.0f, () -> z.ice(0));
        IceConvoys w = new IceConvoys();
        w.set(0, 3);
        w.pass(24);
        float less = w.ice(0) - (0.4f * 3.0f);
        c.due("would be some 0.000007f below", true, () -> less < 0.0f && less > -0.0001f);
        w.pass(1);
        c.due("is not below", 0.0f, () -> w.ice(0));
        c.due("nor does it tell so", true, w::isWell);
    }

    @Says(in = "Terms", sentence = "and at most 200.0f.")
    void growsToTheMost() {
        IceConvoys x = new IceConvoys();
        x.set(0, -40);
        for (int k = 0; k < 11; k++) {
            x.pass(30);
        }
        x.pass(23);
        c.due("the day before", grownAtMost(30.0f, 40, 353), () -> x.ice(0));
        c.due("is still below", true, () -> x.ice(0) < 200.0f && grown(x.ice(0), 40, 1) > 200.0f);
        x.pass(1);
        c.due("the most", 200.0f, () -> x.ice(0));
        x.pass(30);
        c.due("not more", 200.0f, () -> x.ice(0));
        x.undo();
        x.undo();
        float before = x.ice(0);
        x.set(0, -13);
        x.pass(1);
        c.due("just below the most", before + (13.0f * 1.5f / (before + 10.0f)), () -> x.ice(0));
        c.due("is still below", true, () -> x.ice(0) < 200.0f);
        x.undo();
        x.set(0, -14);
        x.pass(1);
        c.due("just above is too much", true, () -> before + (14.0f * 1.5f / (before + 10.0f)) < 200.01f);
        c.due("the most", 200.0f, () -> x.ice(0));
        x.set(0, 1);
        x.pass(1);
        c.due("melts from the most", 200.0f - 0.4f, () -> x.ice(0));
    }

    @Says(in = "Terms", sentence = "Then, if the temperature is below -20, the cracks of each mile become 1 less, but at least 0.")
    void healsBelowMinus20() {
        IceConvoys x = rolled(5, 1, 60, 60, 60);
        x.set(0, -20);
        x.pass(1);
        c.due("not at -20", 1, () -> x.mileOf(1, 0));
        x.set(0, -21);
        x.pass(1);
        c.due("at -21", 0, () -> x.mileOf(1, 0));
        c.due("each mile", 0, () -> x.account(9));
        x.pass(1);
        c.due("at least 0", 0, () -> x.mileOf(1, 0));
        c.due("a mile without cracks", 0, () -> x.mileOf(11, 0));
        c.due("the strain stays", 1, () -> x.mileOf(1, 1));
        x.undo();
        x.undo();
        x.set(0, -40);
        x.pass(1);
        c.due("1 less, also at -40", 0, () -> x.mileOf(0, 0));
        IceConvoys y = withFiveCracks();
        y.set(0, -40);
        y.pass(2);
        c.due("1 less each day", 3, () -> y.mileOf(11, 0));
    }

    @Says(in = "Terms", sentence = "Then the next day begins.")
    void theDayIsOneMore() {
        IceConvoys x = new IceConvoys();
        x.pass(1);
        c.due("one day", 1, () -> x.account(0));
        x.pass(30);
        c.due("30 days", 31, () -> x.account(0));
    }

    @Says(in = "Terms", sentence = "How many drills are not good any more is told of the end of the days.")
    void drillsAreCountedAtTheEnd() {
        IceConvoys x = new IceConvoys();
        x.set(2, 1);
        x.drill(0);
        c.due("still good at the end of its last day", 0, () -> x.pass(1));
        x.drill(1);
        c.due("of two the earlier one", 1, () -> x.pass(1));
        x.drill(2);
        c.due("two of them, long before the end", 2, () -> x.pass(30));
        c.due("each is told once", 0, () -> x.pass(30));
        IceConvoys y = thick();
        c.due("all 12", 12, () -> y.pass(8));
        c.due("none never drilled", 0, () -> new IceConvoys().pass(30));
    }

    @Says(in = "Terms", sentence = "The input has at most 60 characters.")
    void theInputIsFullAt60() {
        IceConvoys x = new IceConvoys();
        type(x, "0".repeat(59));
        c.due("the 60th", 60, () -> x.append('0'));
        c.due("the 61st", STATE, () -> x.append('0'));
        c.due("still 60", 60, () -> x.account(13));
    }

    @Says(in = "Terms", sentence = "A text consists of orders with a semicolon between two of them")
    void semicolonsStandBetweenTwoOrders() {
        dueOrders("d0", 1);
        dueOrders("d0;d1", 2);
        dueUnread(";d0", ARGUMENT, 0, IceConvoys::new);
        dueUnread("d0;", ARGUMENT, 3, IceConvoys::new);
        dueUnread("d0;;d1", ARGUMENT, 3, IceConvoys::new);
        dueUnread("d0d1", ARGUMENT, 2, IceConvoys::new);
        dueUnread("d0,d1", ARGUMENT, 2, IceConvoys::new);
        dueUnread("d0 ;d1", ARGUMENT, 2, IceConvoys::new);
        dueUnread("", ARGUMENT, 0, IceConvoys::new);
    }

    private void dueOrders(String text, int orders) {
        IceConvoys x = thickWith(1, 5);
        c.due("orders of " + text, orders, () -> read(x, text));
        c.due("no error in " + text, -1, x::errorPosition);
    }

    @Says(in = "Terms", sentence = "\"d\" and a number drills this mile")
    void ordersToDrill() {
        IceConvoys x = new IceConvoys();
        c.due("the outermost miles", 2, () -> read(x, "d0;d11"));
        c.due("drilled", bits(30.0f), () -> x.drilled(0));
        c.due("drilled", bits(30.0f), () -> x.drilled(11));
        c.due("no other one", 2, () -> x.account(11));
        dueUnread("d12", ARGUMENT, -1, IceConvoys::new);
        dueUnread("d99", ARGUMENT, -1, IceConvoys::new);
        dueUnread("d", ARGUMENT, 1, IceConvoys::new);
        dueUnread("d-1", ARGUMENT, 1, IceConvoys::new);
    }

    @Says(in = "Terms", sentence = "\"s\" and a convoy starts it; \"r\" and a convoy lets it roll")
    void ordersToStartAndRoll() {
        IceConvoys x = thick();
        for (int convoy = 0; convoy < 4; convoy++) {
            addConvoy(x, 1, 5);
        }
        c.due("the outermost convoys", 3, () -> read(x, "s3;r3;s0"));
        c.due("the convoy 3 rolled", 1, () -> x.convoyOf(3, 2));
        c.due("the convoy 0 started", 0, () -> x.convoyOf(0, 2));
        c.due("the convoy 1 did not", -1, () -> x.convoyOf(1, 2));
        dueUnread("s4", ARGUMENT, -1, () -> withConvoys(4));
        dueUnread("r4", ARGUMENT, -1, () -> withConvoys(4));
        dueUnread("s0", ARGUMENT, -1, IceConvoys::new);
        dueUnread("r9", ARGUMENT, -1, IceConvoys::new);
        dueUnread("s", ARGUMENT, 1, () -> withConvoys(1));
        dueUnread("r", ARGUMENT, 1, () -> withConvoys(1));
        dueUnread("s-", ARGUMENT, 1, () -> withConvoys(1));
        dueUnread("r;", ARGUMENT, 1, () -> withConvoys(1));
    }

    @Says(in = "Terms", sentence = "\"t\", \"-\" or nothing, and a number sets the temperature")
    void ordersToSetTheTemperature() {
        String[] texts = {"t-40", "t-01", "t-0", "t-00", "t0", "t00", "t1", "t01", "t10"};
        int[] set = {-40, -1, 0, 0, 0, 0, 1, 1, 10};
        for (int k = 0; k < texts.length; k++) {
            IceConvoys x = new IceConvoys();
            String text = texts[k];
            c.due(text, 1, () -> read(x, text));
            c.due("by " + text, set[k], () -> x.setting(0));
        }
        dueUnread("t-41", ARGUMENT, -1, IceConvoys::new);
        dueUnread("t11", ARGUMENT, -1, IceConvoys::new);
        dueUnread("t-99", ARGUMENT, -1, IceConvoys::new);
        dueUnread("t99", ARGUMENT, -1, IceConvoys::new);
        dueUnread("t", ARGUMENT, 1, IceConvoys::new);
        dueUnread("t-", ARGUMENT, 2, IceConvoys::new);
        dueUnread("t--1", ARGUMENT, 2, IceConvoys::new);
        dueUnread("t+1", ARGUMENT, 1, IceConvoys::new);
        dueUnread("t1-", ARGUMENT, 2, IceConvoys::new);
    }

    @Says(in = "Terms", sentence = "\"j\", a convoy, \":\" a row and \".\" a place lets a truck join")
    void ordersToJoin() {
        IceConvoys x = withFullRows();
        for (int convoy = 0; convoy < 4; convoy++) {
            x.convoy(1);
        }
        c.due("the outermost ones", 2, () -> read(x, "j0:0.0;j3:1.4"));
        c.due("the first of the row 0", 20, () -> x.truckOf(0, 0, 1));
        c.due("the last of the row 1", 34, () -> x.truckOf(3, 0, 1));
        dueUnread("j1:0.0", ARGUMENT, -1, RulesEdges::withRowsAndConvoy);
        dueUnread("j0:2.0", ARGUMENT, -1, RulesEdges::withRowsAndConvoy);
        dueUnread("j0:0.5", ARGUMENT, -1, RulesEdges::withRowsAndConvoy);
        dueUnread("j0:0.0;j0:0.0", ARGUMENT, -1, RulesEdges::withRowsAndConvoy);
        String[] cut = {"j", "j0", "j0:", "j0:0", "j0:0."};
        for (String text : cut) {
            dueUnread(text, ARGUMENT, text.length(), RulesEdges::withRowsAndConvoy);
        }
        dueUnread("j:0.0", ARGUMENT, 1, RulesEdges::withRowsAndConvoy);
        dueUnread("j0.0:0", ARGUMENT, 2, RulesEdges::withRowsAndConvoy);
        dueUnread("j0:.0", ARGUMENT, 3, RulesEdges::withRowsAndConvoy);
        dueUnread("j0:0:0", ARGUMENT, 4, RulesEdges::withRowsAndConvoy);
        dueUnread("j0:0.;", ARGUMENT, 5, RulesEdges::withRowsAndConvoy);
    }

    private static IceConvoys withRowsAndConvoy() {
        IceConvoys x = withFullRows();
        x.convoy(1);
        return x;
    }

    @Says(in = "Terms", sentence = "\"p\" and a number lets days go by.")
    void ordersToLetDaysGoBy() {
        IceConvoys x = new IceConvoys();
        c.due("the fewest", 1, () -> read(x, "p1"));
        c.due("the most", 1, () -> read(x, "p30"));
        c.due("the day", 31, () -> x.account(0));
        c.due("ice", grown(30.0f, 20, 31), () -> x.ice(0));
        dueUnread("p0", ARGUMENT, -1, IceConvoys::new);
        dueUnread("p00", ARGUMENT, -1, IceConvoys::new);
        dueUnread("p31", ARGUMENT, -1, IceConvoys::new);
        dueUnread("p", ARGUMENT, 1, IceConvoys::new);
        dueUnread("p-1", ARGUMENT, 1, IceConvoys::new);
    }

    @Says(in = "Terms", sentence = "Convoys, rows and places are one digit")
    void aSecondDigitOfAConvoyRowOrPlace() {
        dueUnread("s00", ARGUMENT, 2, RulesEdges::withRowsAndConvoy);
        dueUnread("r00", ARGUMENT, 2, RulesEdges::withRowsAndConvoy);
        dueUnread("j00:0.0", ARGUMENT, 2, RulesEdges::withRowsAndConvoy);
        dueUnread("j0:00.0", ARGUMENT, 4, RulesEdges::withRowsAndConvoy);
        dueUnread("j0:0.00", ARGUMENT, 6, RulesEdges::withRowsAndConvoy);
    }

    @Says(in = "Terms", sentence = "other numbers one or two digits.")
    void oneTwoAndThreeDigits() {
        for (String text : new String[] {"d1", "d01", "p1", "p01", "t1", "t01", "t-1", "t-01"}) {
            dueOrders(text, 1);
        }
        dueUnread("d001", ARGUMENT, 3, IceConvoys::new);
        dueUnread("p001", ARGUMENT, 3, IceConvoys::new);
        dueUnread("t001", ARGUMENT, 3, IceConvoys::new);
        dueUnread("t-001", ARGUMENT, 4, IceConvoys::new);
    }

    @Says(in = "Terms", sentence = "the offset of the first character that cannot continue such a text")
    void theFirstCharacterThatCannotContinue() {
        Object[][] errors = {{"x", 0}, {"0", 0}, {"D0", 0}, {" d0", 0}, {"-", 0}, {":", 0}, {".", 0}, {"d/", 1}, {"d:", 1},
            {"d0/", 2}, {"d0:", 2}, {"s/", 1}, {"s:", 1}, {"r0.", 2}, {"d0;x", 3}, {"d12;d13;q", 8}, {"p0;p99;dd", 8},
            {"d0x;;;;", 2}, {"d0;d1;d2 ", 8}, {"\u0000", 0}, {"d\u00b2", 1}, {"d\uff10", 1}, {"\uffff", 0},
            {"x" + "d".repeat(59), 0}, {"d0;".repeat(19) + "d0x", 59}};
        for (Object[] error : errors) {
            dueUnread((String) error[0], ARGUMENT, (int) error[1], IceConvoys::new);
        }
    }

    @Says(in = "Terms", sentence = "or the length of the text if it ends too early.")
    void textsThatEndTooEarly() {
        String[] cut = {"", "d", "s", "r", "t", "t-", "j", "j0", "j0:", "j0:0", "j0:0.", "p", "d0;", "d0;d", "d0;".repeat(20),
            "d0;".repeat(19) + "d", "d0;".repeat(18) + "j0:0.", "d0;".repeat(17) + "d00;d00;t", "d0;".repeat(18) + "d00;t-",
            "d0;".repeat(18) + "d00;j0", "d0;".repeat(18) + "j0:0.", "d0;".repeat(17) + "d00;j0:0."};
        for (String text : cut) {
            dueUnread(text, ARGUMENT, text.length(), IceConvoys::new);
            for (char sign : new char[] {'0', ';', ':', '.', '-', 'd'}) {
                dueUnread(text, ARGUMENT, text.length(), () -> withFullTextRead(sign));
            }
        }
    }

    /** An earlier text that must not go on behind a shorter one. */
    private static IceConvoys withFullTextRead(char sign) {
        IceConvoys x = new IceConvoys();
        Checks.outcome(() -> read(x, String.valueOf(sign).repeat(60)));
        return x;
    }

    @Says(in = "Terms", sentence = "the offset of the first character that cannot continue such a text, or the length of the text if it ends too early.")
    void noErrorInWhatEndsInTime() {
        for (char sign : new char[] {'0', ';', ':', '.', '-', 'd'}) {
            for (String text : new String[] {"d0", "d00", "p1", "t1", "t-1", "j0:0.0", "d0;".repeat(19) + "d00"}) {
                IceConvoys x = withRowsAndConvoy();
                c.due("an earlier text", ARGUMENT, () -> read(x, String.valueOf(sign).repeat(60)));
                c.due(text, text.length() == 60 ? 20 : 1, () -> read(x, text));
                c.due("the error position of " + text, -1, x::errorPosition);
            }
        }
    }

    @Says(in = "Terms", sentence = "A text is carried out if each order can be, one after the other; else nothing of it is")
    void allOrNothingOfAText() {
        IceConvoys x = new IceConvoys();
        x.convoy(1);
        x.truck(0, 20, 2, 0);
        c.due("each order by what those before it made", 6, () -> read(x, "j0:0.0;d0;s0;d1;r0;p8"));
        c.due("rolled", 1, () -> x.convoyOf(0, 2));
        dueUnread("t5;d0;p9;j0:0.0;j0:0.1;s0", REFUSED, -1, RulesEdges::withRowsAndConvoy);
        dueUnread("t5;d0;s0;r0;d1;p3;r0", REFUSED, -1, RulesEdges::withLoneTruckAndSnapshot);
        dueUnread("d0;d1;s0;r0;d12", ARGUMENT, -1, RulesEdges::withLoneTruckAndSnapshot);
        dueUnread("d12;d0", ARGUMENT, -1, RulesEdges::withLoneTruckAndSnapshot);
    }

    private static IceConvoys withLoneTruckAndSnapshot() {
        IceConvoys x = withConvoy(1, 20);
        x.save();
        return x;
    }

    @Says(in = "Terms", sentence = "and the first order that cannot be decides what is thrown.")
    void theFirstOrderDecides() {
        IceConvoys x = withConvoys(2);
        type(x, "d0;s1;d12");
        c.refused("the refused order is the first", x, 5, 1, x::read);
        type(x, "d0;d12;s0");
        c.due("the order without a mile is the first", ARGUMENT, x::read);
        c.due("the reason stays", 1, () -> x.refusal(true));
        type(x, "s0;s1");
        c.refused("the first of two refused ones", x, 5, 0, x::read);
        type(x, "s1;x");
        c.due("an error ahead of any order", ARGUMENT, x::read);
        c.due("the reason stays", 0, () -> x.refusal(true));
    }

    @Says(in = "Terms", sentence = "A text without an error has no error position, also if it is refused.")
    void noErrorPositionOfARefusedText() {
        IceConvoys x = withConvoys(1);
        c.due("an error", ARGUMENT, () -> read(x, "s0;"));
        c.due("its position", 3, x::errorPosition);
        c.due("refused", REFUSED, () -> read(x, "s0"));
        c.due("no position", -1, x::errorPosition);
        c.due("an error", ARGUMENT, () -> read(x, "s"));
        c.due("no such mile", ARGUMENT, () -> read(x, "d12"));
        c.due("no position", -1, x::errorPosition);
    }

    @Says(in = "Terms", sentence = "Something is refused for the first that applies of the reasons that its method names")
    void theFirstReasonThatApplies() {
        dueRefused("truck: 2 before 3", 2, 0, Edges::withFullRows, x -> x.truck(1, 5, 2, 0));
        dueRefused("join: 4 before 1", 4, 0, RulesEdges::withFourTrucksStarted, x -> x.join(0, 0, 0));
        dueRefused("start: 4 before 7 and 8", 4, 0, RulesEdges::withFourTrucksStarted, x -> x.start(0));
        dueRefused("start: 5 before 7", 5, 2, RulesEdges::withFourTrucksStarted, x -> x.start(2));
        dueRefused("start: 5 before 8", 5, 0, () -> withConvoys(1), x -> x.start(0));
        dueRefused("start: 7 before 8", 7, 0, RulesEdges::withFourTrucksStarted, x -> x.start(1));
        dueRefused("roll: 4 before 7 and 8", 4, 1, RulesEdges::withFourTrucksStarted, x -> x.roll(1));
        dueRefused("roll: 4 of a convoy without trucks", 4, 2, RulesEdges::withFourTrucksStarted, x -> x.roll(2));
        dueRefused("roll: 7 before 8", 7, 1, RulesEdges::withFourTrucksBehind, x -> x.roll(0));
    }

    /** The limit is 0; the convoy 1 has a truck and 2 none, and neither has started. */
    private static IceConvoys withFourTrucksStarted() {
        IceConvoys x = rolled(0, 1, 5, 5, 5, 5);
        addConvoy(x, 1, 9);
        x.convoy(1);
        x.truck(0, 7, 2, 0);
        x.set(1, 0);
        return x;
    }

    /** The same, but the convoy 1 rolled ahead of the convoy 0 to the mile 1. */
    private static IceConvoys withFourTrucksBehind() {
        IceConvoys x = thickWith(1, 5, 5, 5, 5);
        addConvoy(x, 1, 9);
        x.start(1);
        x.roll(1);
        x.start(0);
        x.set(1, 0);
        return x;
    }

    @Says(in = "Terms", sentence = "1, there are 4 convoys, or 4 trucks in the convoy: 4")
    void reason1() {
        IceConvoys x = withConvoys(3);
        c.due("the fourth convoy", 3, () -> x.convoy(1));
        dueRefused("a fifth convoy", 1, 4, () -> withConvoys(4), y -> y.convoy(3));
        dueRefused("a fifth truck", 1, 4, () -> withTrucks(4), y -> y.join(0, 0, 0));
        c.due("the fourth truck", 4, () -> withTrucks(3).join(0, 0, 0));
    }

    private static IceConvoys withTrucks(int count) {
        IceConvoys x = new IceConvoys();
        x.convoy(1);
        for (int k = 0; k < count; k++) {
            x.join(0, 0, x.truck(0, 5 + k, 2, 0));
        }
        x.truck(0, 60, 2, 0);
        return x;
    }

    @Says(in = "Terms", sentence = "2, the row is full: the row")
    void reason2() {
        dueRefused("a sixth flat one", 2, 0, Edges::withFullRows, x -> x.truck(0, 5, 2, 0));
        dueRefused("a sixth tank", 2, 1, Edges::withFullRows, x -> x.truck(1, 5, 2, 1));
    }

    @Says(in = "Terms", sentence = "3, the row is for the other kind: the row")
    void reason3() {
        dueRefused("a tank in the row 0", 3, 0, IceConvoys::new, x -> x.truck(1, 5, 2, 0));
        dueRefused("a flat one in the row 1", 3, 1, IceConvoys::new, x -> x.truck(0, 5, 2, 1));
    }

    @Says(in = "Terms", sentence = "4, the convoy has started, or has not, where it needs the other: the convoy")
    void reason4() {
        for (int convoy = 0; convoy <= 3; convoy++) {
            int n = convoy;
            dueRefused("roll before the start", 4, n, () -> withFourConvoys(false), x -> x.roll(n));
            dueRefused("a second start", 4, n, () -> withFourConvoys(true), x -> x.start(n));
            dueRefused("join after the start", 4, n, () -> withFourConvoys(true), x -> x.join(n, 0, 0));
        }
        dueRefused("start when done", 4, 0, () -> rolled(12, 1, 5), x -> x.start(0));
    }

    /** One truck each; if they have started, they are at the miles 3 to 0. */
    private static IceConvoys withFourConvoys(boolean haveStarted) {
        IceConvoys x = thick();
        for (int convoy = 0; convoy < 4; convoy++) {
            addConvoy(x, 1, 5);
        }
        for (int convoy = 0; haveStarted && convoy < 4; convoy++) {
            x.start(convoy);
            roll(x, convoy, 3 - convoy);
        }
        x.truck(0, 60, 2, 0);
        return x;
    }

    @Says(in = "Terms", sentence = "5, the convoy has no trucks: the convoy")
    void reason5() {
        for (int convoy = 0; convoy <= 3; convoy++) {
            int n = convoy;
            dueRefused("no trucks", 5, n, () -> withConvoys(4), x -> x.start(n));
        }
    }

    @Says(in = "Terms", sentence = "6, the convoy is done: the convoy")
    void reason6() {
        dueRefused("done", 6, 0, () -> rolled(12, 1, 5), x -> x.roll(0));
        dueRefused("done with two trucks", 6, 0, () -> rolled(16, 3, 5, 5), x -> x.roll(0));
        dueRefused("done as convoy 3", 6, 3, RulesEdges::withTheLastDone, x -> x.roll(3));
        c.due("not before the last has arrived", 0, () -> rolled(15, 3, 5, 5).roll(0));
    }

    private static IceConvoys withTheLastDone() {
        IceConvoys x = thick();
        for (int convoy = 0; convoy < 3; convoy++) {
            x.convoy(1);
        }
        addConvoy(x, 1, 5);
        x.start(3);
        roll(x, 3, 12);
        return x;
    }

    @Says(in = "Terms", sentence = "7, a truck of another convoy is at the mile of one of its trucks: the mile of the first such truck by places in the convoy")
    void reason7() {
        for (int mile = 1; mile <= 11; mile++) {
            int m = mile;
            dueRefused("at the mile " + m, 7, m, () -> withOneBehindAnother(m), x -> x.roll(1));
        }
        dueRefused("at the mile 0", 7, 0, RulesEdges::withFourTrucksStarted, x -> x.start(1));
        dueRefused("of two the first by places", 7, 4, () -> withTwoAhead(4), x -> x.roll(0));
        dueRefused("the second, if the first has its way", 7, 1, () -> withTwoAhead(5), x -> x.roll(0));
    }

    private static IceConvoys withOneBehindAnother(int mile) {
        IceConvoys x = rolled(mile, 1, 5);
        addConvoy(x, 1, 5);
        x.start(1);
        roll(x, 1, mile - 1);
        return x;
    }

    /** The convoy 0 at the miles 3 and 0, 1 at the mile 1 between its trucks, and 2 ahead at this mile. */
    private static IceConvoys withTwoAhead(int mile) {
        IceConvoys x = thickWith(2, 5, 5);
        addConvoy(x, 1, 5);
        addConvoy(x, 1, 5);
        x.start(2);
        roll(x, 2, mile);
        x.start(0);
        roll(x, 0, 2);
        x.start(1);
        x.roll(1);
        x.roll(0);
        return x;
    }

    @Says(in = "Terms", sentence = "8, the mile of one of its trucks bears less than its load: the mile of the first such truck by places in the convoy.")
    void reason8() {
        dueRefused("at the mile 0", 8, 0, () -> withConvoy(1, 5), x -> x.start(0));
        for (int mile = 1; mile <= 11; mile++) {
            int m = mile;
            dueRefused("at the mile " + m, 8, m, () -> withDrillsUpTo(m), x -> x.roll(0));
        }
        dueRefused("of two the first by places", 8, 2, () -> withHeavySecond(2), x -> x.roll(0));
        dueRefused("the second, if the first is borne", 8, 0, () -> withHeavySecond(3), x -> x.roll(0));
    }

    /** At the mile ahead of the given one, which was never drilled. */
    private static IceConvoys withDrillsUpTo(int mile) {
        IceConvoys x = withConvoy(1, 36);
        for (int drilled = 0; drilled < mile; drilled++) {
            x.drill(drilled);
        }
        x.start(0);
        roll(x, 0, mile - 1);
        return x;
    }

    /** With the lead 1 and a second truck that is too heavy for the mile 0. */
    private static IceConvoys withHeavySecond(int drills) {
        IceConvoys x = withConvoy(1, 5, 37);
        for (int mile = 0; mile < drills; mile++) {
            x.drill(mile);
        }
        x.start(0);
        x.roll(0);
        return x;
    }

    @Says(in = "Terms", sentence = "The changes are the successful calls of set, truck, drill, convoy, join, start, roll, pass and read")
    void eachChangeIsUndone() {
        dueUndone("set", RulesEdges::readyForChanges, x -> x.set(1, 0));
        dueUndone("truck", RulesEdges::readyForChanges, x -> x.truck(1, 60, 6, 1));
        dueUndone("drill", RulesEdges::readyForChanges, x -> x.drill(11));
        dueUndone("convoy", RulesEdges::readyForChanges, x -> x.convoy(3));
        dueUndone("join", RulesEdges::readyForChanges, x -> x.join(1, 0, 0));
        dueUndone("start", RulesEdges::readyForChanges, x -> x.start(1));
        dueUndone("roll", RulesEdges::readyForChanges, x -> x.roll(0));
        dueUndone("roll that delivers", () -> rolled(11, 1, 60), x -> x.roll(0));
        dueUndone("pass", RulesEdges::readyForChanges, x -> x.pass(30));
        dueUndone("read", RulesEdges::readyForChanges, x -> read(x, "p1;t5;d3;j1:0.0;r0"));
        dueUndone("read that starts", RulesEdges::readyForChanges, x -> read(x, "s1"));
    }

    private static IceConvoys readyForChanges() {
        IceConvoys x = rolled(3, 1, 60, 60, 60, 60);
        addConvoy(x, 1, 10);
        x.truck(0, 20, 2, 0);
        return x;
    }

    /** Of the full history the oldest change alone is forgotten by a change and its undo. */
    private void dueUndone(String what, Making making, Act change) {
        IceConvoys x = making.road();
        IceConvoys y = making.road();
        int before = x.account(14);
        change.on(x);
        c.due(what + ": the full history", 8, () -> x.account(14));
        c.due(what + ": undone", 7, x::undo);
        c.due(what + ": the full history before", 8, () -> before);
        dueNoDifference(what, Look.atRoad(y), Look.atRoad(x));
    }

    @Says(in = "Terms", sentence = "also if nothing is different then.")
    void changesWithoutADifference() {
        IceConvoys x = new IceConvoys();
        x.set(0, -20);
        c.due("set to what it was", 1, () -> x.account(14));
        read(x, "t-20");
        c.due("read of such an order", 2, () -> x.account(14));
        x.set(1, 100);
        x.set(2, 7);
        c.due("four of them", 4, () -> x.account(14));
        c.due("undone one by one", 3, x::undo);
    }

    @Says(in = "Terms", sentence = "The changes are the successful calls of set")
    void noOtherCallIsAChange() {
        IceConvoys x = withConvoys(1);
        x.append('q');
        x.save();
        for (Act act : wrongCalls()) {
            Checks.outcome(() -> act.on(x));
        }
        c.due("one change alone", 1, () -> x.account(14));
        x.undo();
        c.due("an undo is none", 0, () -> x.account(14));
        x.save();
        x.restore();
        c.due("nor a restore", 0, () -> x.account(14));
    }

    private static Act[] wrongCalls() {
        return new Act[] {x -> x.set(0, 11), x -> x.truck(0, 4, 2, 0), x -> x.truck(1, 5, 2, 0), x -> x.drill(12),
            x -> x.convoy(4), x -> x.join(0, 0, 0), x -> x.start(0), x -> x.roll(0), x -> x.pass(31), x -> x.read(),
            x -> x.rollsAgain(0), x -> x.rolls(0), x -> x.iceIn(0, 60), x -> x.bearsIn(0, 99), x -> x.isWell()};
    }

    @Says(in = "Terms", sentence = "The latest 8 can be undone")
    void eightOfNineChangesAreUndone() {
        IceConvoys x = new IceConvoys();
        for (int day = 1; day <= 9; day++) {
            int n = day;
            x.pass(1);
            c.due("changes that can be undone", Math.min(n, 8), () -> x.account(14));
        }
        for (int left = 7; left >= 0; left--) {
            int n = left;
            c.due("undo", n, x::undo);
            c.due("the day", n + 1, () -> x.account(0));
        }
        c.due("the ninth", STATE, x::undo);
        c.due("the day stays", 1, () -> x.account(0));
    }

    @Says(in = "Terms", sentence = "The latest 8 can be undone")
    void theHistoryGoesRound() {
        IceConvoys x = new IceConvoys();
        for (int round = 1; round <= 20; round++) {
            int day = x.account(0);
            x.pass(1);
            x.pass(2);
            x.pass(3);
            c.due("one undone", true, () -> x.undo() <= 7);
            c.due("two are left of the round", day + 3, () -> x.account(0));
        }
        for (int undone = 1; undone <= 7; undone++) {
            int k = undone;
            int[] days = {58, 57, 55, 54, 52, 51, 49};
            c.due("undo " + k, 7 - k, x::undo);
            c.due("the day after " + k, days[k - 1], () -> x.account(0));
        }
        c.due("no more", STATE, x::undo);
    }

    @Says(in = "Terms", sentence = "restore forgets all.")
    void restoreForgetsTheHistory() {
        IceConvoys x = new IceConvoys();
        x.save();
        for (int k = 0; k < 9; k++) {
            x.pass(1);
        }
        x.restore();
        c.due("none can be undone", 0, () -> x.account(14));
        c.due("none", STATE, x::undo);
        x.pass(1);
        c.due("one since", 0, x::undo);
        c.due("no more", STATE, x::undo);
        IceConvoys y = new IceConvoys();
        y.pass(1);
        c.due("a restore that is not possible forgets none", STATE, y::restore);
        c.due("one", 1, () -> y.account(14));
    }

    @Says(in = "Terms", sentence = "A method that throws an exception leaves the state unchanged unless its documentation says otherwise.")
    void wrongArgumentsLeaveAllAsItWas() {
        Act[] noIndex = {x -> x.drill(12), x -> x.drilled(-1), x -> x.mileOf(12, 0), x -> x.ice(-1), x -> x.bears(12),
            x -> x.sign(-1), x -> x.truck(0, 5, 2, 2), x -> x.inRow(2, 0, 0), x -> x.inRow(0, 5, 0), x -> x.join(4, 0, 0),
            x -> x.join(2, 2, 0), x -> x.join(2, 0, 5), x -> x.start(4), x -> x.roll(-1), x -> x.why(4, false),
            x -> x.convoyOf(4, 0), x -> x.truckOf(0, 3, 0), x -> x.truckOf(3, 0, 0), x -> x.load(0, -1), x -> x.at(12),
            x -> x.rolls(4), x -> x.rollsAgain(4), x -> x.iceIn(12, 0), x -> x.bearsIn(-1, 1)};
        for (int k = 0; k < noIndex.length; k++) {
            dueThrow("no such index, call " + k, INDEX, Edges::busy, noIndex[k]);
        }
        Act[] noArgument = {x -> x.set(0, 11), x -> x.set(3, 0), x -> x.setting(3), x -> x.mileOf(0, 5), x -> x.truck(2, 5, 2, 0),
            x -> x.truck(0, 4, 2, 0), x -> x.truck(0, 5, 7, 0), x -> x.inRow(0, 0, 2), x -> x.convoy(0), x -> x.convoyOf(0, 6),
            x -> x.truckOf(0, 0, 4), x -> x.iceIn(0, 61), x -> x.bearsIn(0, 0), x -> x.pass(0), x -> x.pass(31),
            x -> x.account(15)};
        for (int k = 0; k < noArgument.length; k++) {
            dueThrow("no such argument, call " + k, ARGUMENT, Edges::busy, noArgument[k]);
        }
        Act[] none = {x -> x.inRow(0, 4, 0), x -> x.join(2, 1, 4), x -> x.at(11)};
        for (int k = 0; k < none.length; k++) {
            dueThrow("none, call " + k, NONE, Edges::busy, none[k]);
        }
        Act[] noneOfANewRoad = {x -> x.drilled(0), x -> x.refusal(false), x -> x.refusal(true)};
        for (int k = 0; k < noneOfANewRoad.length; k++) {
            dueThrow("none of a new road, call " + k, NONE, IceConvoys::new, noneOfANewRoad[k]);
        }
        dueThrow("share", ArithmeticException.class, IceConvoys::new, x -> x.share());
        dueThrow("undo", STATE, IceConvoys::new, x -> x.undo());
        dueThrow("restore", STATE, IceConvoys::new, x -> x.restore());
        dueThrow("bearsIn", NONE, Edges::withoutIce, x -> x.bearsIn(0, 1));
        dueThrow("append", STATE, RulesEdges::withFullInput, x -> x.append('d'));
    }

    private static IceConvoys withFullInput() {
        IceConvoys x = new IceConvoys();
        type(x, "d0;".repeat(19) + "d11");
        return x;
    }

    @Says(in = "Terms", sentence = "A method that throws an exception leaves the state unchanged unless its documentation says otherwise.")
    void refusalsLeaveAllButTheReason() {
        dueRefused("truck", 3, 0, Edges::busy, x -> x.truck(1, 60, 6, 0));
        dueRefused("convoy", 1, 4, Edges::busy, x -> x.convoy(1));
        dueRefused("join", 4, 0, Edges::busy, x -> x.join(0, 0, 0));
        dueRefused("start without trucks", 5, 3, Edges::busy, x -> x.start(3));
        dueRefused("start of a convoy on the road", 4, 1, Edges::busy, x -> x.start(1));
        dueRefused("start in the way", 7, 0, Edges::busy, x -> x.start(2));
        dueRefused("roll in the way", 7, 1, Edges::busy, x -> x.roll(1));
        dueRefused("roll before the start", 4, 2, Edges::busy, x -> x.roll(2));
    }

    @Says(in = "Terms", sentence = "If several exceptions apply, the one that is documented first is thrown.")
    void theExceptionThatIsDocumentedFirst() {
        IceConvoys x = withFullRows();
        c.due("mileOf: mile, what", INDEX, () -> x.mileOf(12, 5));
        c.due("truck: row, weight", INDEX, () -> x.truck(2, 4, 1, 2));
        c.due("truck: weight, full", ARGUMENT, () -> x.truck(0, 4, 2, 0));
        c.due("truck: axles, other kind", ARGUMENT, () -> x.truck(0, 5, 7, 1));
        c.due("inRow: place, what", INDEX, () -> x.inRow(0, 5, 2));
        c.due("convoyOf: convoy, what", INDEX, () -> x.convoyOf(0, 6));
        c.due("truckOf: convoy, what", INDEX, () -> x.truckOf(0, 0, 4));
        c.due("iceIn: mile, days", INDEX, () -> x.iceIn(12, 61));
        c.due("bearsIn: mile, tonnes", INDEX, () -> x.bearsIn(12, 100));
        x.set(0, 10);
        c.due("bearsIn: tonnes, not within 90 days", ARGUMENT, () -> x.bearsIn(0, 100));
        x.convoy(1);
        c.due("join: place, full", INDEX, () -> x.join(0, 0, 5));
        for (int place = 0; place < 4; place++) {
            x.join(0, 0, place);
        }
        c.due("inRow: no truck, what", NONE, () -> x.inRow(0, 0, 2));
        c.due("truckOf: place, what", INDEX, () -> x.truckOf(0, 4, 4));
        c.due("join: convoy, no truck", INDEX, () -> x.join(1, 0, 0));
        c.due("join: no truck, 4 trucks", NONE, () -> x.join(0, 0, 0));
        for (int convoy = 1; convoy < 4; convoy++) {
            x.convoy(1);
        }
        c.due("convoy: gap, 4 convoys", ARGUMENT, () -> x.convoy(4));
        c.due("nothing was refused", NONE, () -> x.refusal(false));
        c.due("read: an error, a refused order", ARGUMENT, () -> read(x, "s1;q"));
        c.due("still nothing", NONE, () -> x.refusal(false));
    }

    @Says(in = "Terms", sentence = "The input, the error position and the reason are neither undone nor saved, and stay.")
    void inputErrorPositionAndReasonStay() {
        IceConvoys x = new IceConvoys();
        x.save();
        x.pass(1);
        c.due("an error", ARGUMENT, () -> read(x, "d0;d"));
        c.refused("refused", x, 3, 1, () -> x.truck(0, 5, 2, 1));
        type(x, "d1");
        x.undo();
        dueAsides(x, 4, 3, 1, 2);
        x.restore();
        dueAsides(x, 4, 3, 1, 2);
        x.append('1');
        x.save();
        dueAsides(x, 4, 3, 1, 3);
        c.due("the text goes on as it was", 1, x::read);
        c.due("its mile", bits(30.0f), () -> x.drilled(11));
        x.undo();
        c.due("no error position comes again by undo", -1, x::errorPosition);
        c.due("nor the input", 0, () -> x.account(13));
        x.restore();
        dueAsides(x, -1, 3, 1, 0);
    }

    private void dueAsides(IceConvoys x, int position, int reason, int detail, int characters) {
        c.due("the error position", position, x::errorPosition);
        c.due("the reason", reason, () -> x.refusal(false));
        c.due("the detail", detail, () -> x.refusal(true));
        c.due("the input", characters, () -> x.account(13));
    }
}
