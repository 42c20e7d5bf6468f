/** Each promise of the document by itself: ordinary inputs, the edges it names, and wrong inputs. */
public final class PromisesTest extends Roads {
    private final Checks c = new Checks();

    public static void main(String[] args) {
        PromisesTest t = new PromisesTest();
        t.p01NewObject();
        t.p02p03Settings();
        t.p04p05Drills();
        t.p06MileOf();
        t.p07Ice();
        t.p08Bears();
        t.p09Sign();
        t.p10Weakest();
        t.p11p12Rows();
        t.p13Convoys();
        t.p14Join();
        t.p15Start();
        t.p16Roll();
        t.p16RollInTheWay();
        t.p16Cracks();
        t.p17Why();
        t.p18ConvoyOf();
        t.p19p20TrucksOfConvoys();
        t.p21At();
        t.p22p23Rolls();
        t.p22p23RollsThroughOwnCracks();
        t.p22p23RollsThroughCracksAhead();
        t.p24IceIn();
        t.p25BearsIn();
        t.p26Pass();
        t.p27Append();
        t.p28Read();
        t.p28ReadWrongOrders();
        t.p28AllOrNothing();
        t.p28p29Errors();
        t.p29ErrorStays();
        t.p30Refusal();
        t.p31Accounts();
        t.p32IsWell();
        t.p33MeanBits();
        t.p34Share();
        t.p35Undo();
        t.p35UndoOfEachChange();
        t.p36p37Snapshot();
        t.c.end("PromisesTest");
    }

    private void p01NewObject() {
        IceConvoys x = new IceConvoys();
        for (int mile = 0; mile < 12; mile++) {
            int m = mile;
            c.due("1: ice", 30.0f, () -> x.ice(m));
            c.due("1: never drilled", -1, () -> x.mileOf(m, 2));
            c.due("1: no cracks", 0, () -> x.mileOf(m, 0));
            c.due("1: no strain", 0, () -> x.mileOf(m, 1));
            c.due("1: no truck came", 0, () -> x.mileOf(m, 4));
        }
        for (int what = 0; what <= 14; what++) {
            int w = what;
            c.due("1: account " + w, 0, () -> x.account(w));
        }
        c.due("1: temperature", -20, () -> x.setting(0));
        c.due("1: limit", 100, () -> x.setting(1));
        c.due("1: good days", 7, () -> x.setting(2));
        c.due("1: no convoy", INDEX, () -> x.convoyOf(0, 0));
        c.due("1: no truck", NONE, () -> x.inRow(0, 0, 0));
        c.due("1: no text read", -1, x::errorPosition);
    }

    private void p02p03Settings() {
        IceConvoys x = new IceConvoys();
        int[][] ranges = {{-40, 10}, {0, 100}, {1, 14}};
        int[] first = {-20, 100, 7};
        for (int what = 0; what < 3; what++) {
            int w = what;
            int low = ranges[what][0];
            int high = ranges[what][1];
            c.due("2: below", ARGUMENT, () -> x.set(w, low - 1));
            c.due("2: above", ARGUMENT, () -> x.set(w, high + 1));
            c.due("2: far below", ARGUMENT, () -> x.set(w, Integer.MIN_VALUE));
            c.due("2: far above", ARGUMENT, () -> x.set(w, Integer.MAX_VALUE));
            c.due("3: unchanged", first[w], () -> x.setting(w));
            c.due("2: lowest", first[w], () -> x.set(w, low));
            c.due("3: lowest", low, () -> x.setting(w));
            c.due("2: highest", low, () -> x.set(w, high));
            c.due("3: highest", high, () -> x.setting(w));
        }
        for (int what : new int[] {-1, 3, Integer.MIN_VALUE, Integer.MAX_VALUE}) {
            c.due("2: no setting", ARGUMENT, () -> x.set(what, 1));
            c.due("3: no setting", ARGUMENT, () -> x.setting(what));
        }
        c.due("2: only successful calls are changes", 6, () -> x.account(14));
    }

    private void p04p05Drills() {
        IceConvoys x = new IceConvoys();
        for (int mile : NO_MILES) {
            c.due("4: no mile", INDEX, () -> x.drill(mile));
            c.due("5: no mile", INDEX, () -> x.drilled(mile));
        }
        c.due("4: no drill was made", 0, () -> x.account(11));
        c.due("5: never drilled", NONE, () -> x.drilled(11));
        c.due("4: drill", bits(30.0f), () -> x.drill(11));
        c.due("5: drilled", bits(30.0f), () -> x.drilled(11));
        c.due("5: another mile", NONE, () -> x.drilled(10));
        x.pass(9);
        float ice = grown(30.0f, 20, 9);
        c.due("5: noted as it was, also if not good any more", bits(30.0f), () -> x.drilled(11));
        c.due("4: drill later", bits(ice), () -> x.drill(11));
        c.due("5: in place of the earlier drill", bits(ice), () -> x.drilled(11));
        c.due("4: the day is noted", 9, () -> x.mileOf(11, 2));
        c.due("4: drills so far", 2, () -> x.account(11));
    }

    private void p06MileOf() {
        IceConvoys x = withConvoy(1, 60, 60, 60, 9);
        for (int mile : NO_MILES) {
            c.due("6: no mile first", INDEX, () -> x.mileOf(mile, 9));
        }
        for (int what : new int[] {-1, 5, Integer.MIN_VALUE, Integer.MAX_VALUE}) {
            c.due("6: no number", ARGUMENT, () -> x.mileOf(0, what));
        }
        x.set(0, -40);
        x.pass(30);
        drillAll(x);
        x.start(0);
        c.due("6: strain, a tenth and 1", 7, () -> x.mileOf(0, 1));
        c.due("6: a truck came", 1, () -> x.mileOf(0, 4));
        c.due("6: none came ahead", 0, () -> x.mileOf(1, 4));
        roll(x, 0, 2);
        c.due("6: strain of two", 14, () -> x.mileOf(0, 1));
        c.due("6: no crack below 20", 0, () -> x.mileOf(0, 0));
        roll(x, 0, 2);
        c.due("6: 20 less", 1, () -> x.mileOf(0, 1));
        c.due("6: a crack", 1, () -> x.mileOf(0, 0));
        roll(x, 0, 2);
        c.due("6: 9 tonnes strain 1", 2, () -> x.mileOf(0, 1));
        c.due("6: four came", 4, () -> x.mileOf(0, 4));
        c.due("6: day of the drill", 30, () -> x.mileOf(0, 2));
        c.due("6: good", 1, () -> x.mileOf(0, 3));
        x.pass(7);
        c.due("6: good on the last day", 1, () -> x.mileOf(0, 3));
        c.due("6: cracks heal below -20", 0, () -> x.mileOf(0, 0));
        x.pass(1);
        c.due("6: not good", 0, () -> x.mileOf(0, 3));
        c.due("6: day stays", 30, () -> x.mileOf(0, 2));
        x.set(2, 8);
        c.due("6: good again by the setting", 1, () -> x.mileOf(0, 3));
    }

    private void p07Ice() {
        IceConvoys x = new IceConvoys();
        for (int mile : NO_MILES) {
            c.due("7: no mile", INDEX, () -> x.ice(mile));
        }
        x.set(0, -1);
        x.pass(1);
        c.due("7: grows by 1.5 / 40", 30.0f + 1.5f / 40.0f, () -> x.ice(11));
        x.set(0, 0);
        x.pass(5);
        c.due("7: 0 degrees", 30.0f + 1.5f / 40.0f, () -> x.ice(0));
        x.set(0, 3);
        x.pass(1);
        c.due("7: melts", 30.0f + 1.5f / 40.0f - 0.4f * 3.0f, () -> x.ice(0));
        x.set(0, 10);
        x.pass(8);
        c.due("7: at least 0.0f", 0.0f, () -> x.ice(0));
        x.set(0, 0);
        x.pass(1);
        c.due("7: stays 0.0f", 0.0f, () -> x.ice(0));
        x.set(0, -40);
        x.pass(1);
        c.due("7: grows from nothing", 6.0f, () -> x.ice(0));
        for (int k = 0; k < 20; k++) {
            x.pass(30);
        }
        c.due("7: at most 200.0f", true, () -> x.ice(0) <= 200.0f && x.ice(0) == grownAtMost(6.0f, 40, 600));
    }

    private void p08Bears() {
        IceConvoys x = withConvoy(1, 60, 60, 60, 60);
        for (int mile : NO_MILES) {
            c.due("8: no mile", INDEX, () -> x.bears(mile));
        }
        c.due("8: never drilled", 0, () -> x.bears(0));
        x.drill(0);
        c.due("8: 30 * 30 * 0.04", bits(30.0f * 30.0f * 0.04f), () -> x.bears(0));
        x.set(1, 37);
        c.due("8: the limit now", bits(30.0f * 30.0f * 0.04f * 1.0f * (37.0f / 100.0f)), () -> x.bears(0));
        x.set(1, 0);
        c.due("8: limit 0", 0, () -> x.bears(0));
        x.set(1, 100);
        x.set(0, -20);
        x.pass(7);
        c.due("8: by the noted ice, on the last good day", bits(36.0f), () -> x.bears(0));
        x.pass(1);
        c.due("8: not good", 0, () -> x.bears(0));
        x.pass(30);
        drillAll(x);
        x.start(0);
        roll(x, 0, 5);
        float ice = grown(30.0f, 20, 38);
        c.due("8: a crack", 1, () -> x.mileOf(0, 0));
        c.due("8: less by cracks", bits(ice * ice * 0.04f * (1.0f - 0.1f * 1.0f) * 1.0f), () -> x.bears(0));
        c.due("8: without cracks", bits(ice * ice * 0.04f), () -> x.bears(9));
    }

    private void p09Sign() {
        IceConvoys x = withConvoy(1, 60, 60, 60, 60);
        for (int mile : NO_MILES) {
            c.due("9: no mile", INDEX, () -> x.sign(mile));
        }
        c.due("9: never drilled", '?', () -> x.sign(0));
        x.pass(30);
        drillAll(x);
        c.due("9: no cracks", '0', () -> x.sign(0));
        x.start(0);
        c.due("9: a truck", 'T', () -> x.sign(0));
        roll(x, 0, 1);
        c.due("9: behind it", '0', () -> x.sign(0));
        c.due("9: the truck", 'T', () -> x.sign(1));
        roll(x, 0, 6);
        c.due("9: a crack", '1', () -> x.sign(0));
        x.pass(8);
        c.due("9: a truck before a drill that is not good", 'T', () -> x.sign(1));
        c.due("9: not good before cracks", '?', () -> x.sign(0));
    }

    private void p10Weakest() {
        IceConvoys x = new IceConvoys();
        c.due("10: all bear nothing", 0, x::weakest);
        for (int mile = 0; mile < 11; mile++) {
            x.drill(mile);
        }
        c.due("10: never drilled", 11, x::weakest);
        x.drill(11);
        c.due("10: the lowest of several", 0, x::weakest);
        x.pass(1);
        drillAll(x);
        x.set(0, 10);
        x.pass(1);
        x.drill(7);
        x.drill(5);
        c.due("10: the thinnest", 5, x::weakest);
        IceConvoys y = new IceConvoys();
        drillAll(y);
        y.pass(1);
        y.drill(0);
        c.due("10: the next to the thickest", 1, y::weakest);
    }

    private void p11p12Rows() {
        IceConvoys x = new IceConvoys();
        c.due("11: no row first", INDEX, () -> x.truck(2, 4, 1, 2));
        c.due("11: no row", INDEX, () -> x.truck(0, 5, 2, -1));
        c.due("11: no kind", ARGUMENT, () -> x.truck(2, 5, 2, 0));
        c.due("11: no kind", ARGUMENT, () -> x.truck(-1, 5, 2, 0));
        c.due("11: too light", ARGUMENT, () -> x.truck(0, 4, 2, 0));
        c.due("11: too heavy", ARGUMENT, () -> x.truck(0, 61, 2, 0));
        c.due("11: too few axles", ARGUMENT, () -> x.truck(0, 5, 1, 0));
        c.due("11: too many axles", ARGUMENT, () -> x.truck(0, 5, 7, 0));
        c.due("11: nothing refused yet", NONE, () -> x.refusal(false));
        c.refused("11: a tank in the row for flat ones", x, 3, 0, () -> x.truck(1, 5, 2, 0));
        c.refused("11: a flat one in the row for tanks", x, 3, 1, () -> x.truck(0, 5, 2, 1));
        for (int place = 0; place < 5; place++) {
            int p = place;
            c.due("11: the lowest free place", p, () -> x.truck(0, 5 + p, 2 + p, 0));
        }
        c.refused("11: full", x, 2, 0, () -> x.truck(0, 5, 2, 0));
        c.refused("11: full before the other kind", x, 2, 0, () -> x.truck(1, 5, 2, 0));
        c.due("11: wrong arguments before full", ARGUMENT, () -> x.truck(0, 4, 2, 0));
        c.due("11: the other row", 0, () -> x.truck(1, 60, 6, 1));
        x.convoy(1);
        x.join(0, 0, 3);
        x.join(0, 0, 1);
        c.due("11: a place that is free again", 1, () -> x.truck(0, 50, 5, 0));
        c.due("11: and the next", 3, () -> x.truck(0, 40, 4, 0));
        c.due("12: weight", 50, () -> x.inRow(0, 1, 0));
        c.due("12: axles", 5, () -> x.inRow(0, 1, 1));
        c.due("12: the last place", 9, () -> x.inRow(0, 4, 0));
        c.due("12: a tank", 60, () -> x.inRow(1, 0, 0));
        c.due("12: its axles", 6, () -> x.inRow(1, 0, 1));
        for (int odd : new int[] {-1, 5, Integer.MIN_VALUE, Integer.MAX_VALUE}) {
            c.due("12: no row first", INDEX, () -> x.inRow(odd, 4, 9));
            c.due("12: no place first", INDEX, () -> x.inRow(1, odd, 9));
            c.due("12: no number", ARGUMENT, () -> x.inRow(0, 0, odd));
        }
        c.due("12: no row 2", INDEX, () -> x.inRow(2, 0, 0));
        c.due("12: no truck before no number", NONE, () -> x.inRow(1, 1, 2));
        c.due("12: no number 2", ARGUMENT, () -> x.inRow(0, 0, 2));
    }

    private void p13Convoys() {
        IceConvoys x = new IceConvoys();
        for (int gap : new int[] {0, 4, Integer.MIN_VALUE, Integer.MAX_VALUE}) {
            c.due("13: gap", ARGUMENT, () -> x.convoy(gap));
        }
        for (int number = 0; number < 4; number++) {
            int n = number;
            c.due("13: its number", n, () -> x.convoy(1 + n % 3));
            c.due("13: its gap", 1 + n % 3, () -> x.convoyOf(n, 0));
        }
        c.due("13: the gap before the number", ARGUMENT, () -> x.convoy(0));
        c.refused("13: there are 4", x, 1, 4, () -> x.convoy(1));
        c.due("13: still 4", 4, () -> x.account(2));
    }

    private void p14Join() {
        IceConvoys x = new IceConvoys();
        c.due("14: no convoy", INDEX, () -> x.join(0, 0, 0));
        x.convoy(1);
        for (int odd : new int[] {-1, 5, Integer.MIN_VALUE, Integer.MAX_VALUE}) {
            c.due("14: no convoy", INDEX, () -> x.join(odd, 0, 0));
            c.due("14: no row", INDEX, () -> x.join(0, odd, 0));
            c.due("14: no place", INDEX, () -> x.join(0, 0, odd));
        }
        c.due("14: no row 2", INDEX, () -> x.join(0, 2, 0));
        c.due("14: no truck", NONE, () -> x.join(0, 1, 4));
        for (int k = 0; k < 5; k++) {
            x.truck(0, 10 + k, 2, 0);
        }
        x.truck(1, 30, 4, 1);
        c.due("14: one", 1, () -> x.join(0, 0, 2));
        c.due("14: its place is free", NONE, () -> x.inRow(0, 2, 0));
        c.due("14: two", 2, () -> x.join(0, 1, 0));
        c.due("14: three", 3, () -> x.join(0, 0, 0));
        c.due("14: four", 4, () -> x.join(0, 0, 4));
        c.refused("14: there are 4", x, 1, 4, () -> x.join(0, 0, 1));
        c.due("14: no truck before reasons", NONE, () -> x.join(0, 0, 0));
        c.due("14: the order in which they joined", 30, () -> x.truckOf(0, 1, 1));
        drillAll(x);
        x.start(0);
        c.refused("14: started before there are 4", x, 4, 0, () -> x.join(0, 0, 1));
        x.convoy(2);
        c.due("14: another convoy", 1, () -> x.join(1, 0, 1));
        x.roll(0);
        x.start(1);
        c.refused("14: started", x, 4, 1, () -> x.join(1, 0, 3));
        c.due("14: it is still in the row", 13, () -> x.inRow(0, 3, 0));
    }

    private void p15Start() {
        IceConvoys x = new IceConvoys();
        for (int odd : new int[] {-1, 0, 4, Integer.MIN_VALUE, Integer.MAX_VALUE}) {
            c.due("15: no convoy", INDEX, () -> x.start(odd));
        }
        x.convoy(3);
        c.refused("15: no trucks", x, 5, 0, () -> x.start(0));
        addConvoy(x, 1, 36, 5);
        c.refused("15: never drilled", x, 8, 0, () -> x.start(1));
        x.drill(0);
        x.set(1, 99);
        c.refused("15: bears less than 36 tonnes", x, 8, 0, () -> x.start(1));
        c.due("15: has not started", -1, () -> x.convoyOf(1, 2));
        x.set(1, 100);
        c.due("15: bears just 36 tonnes", 2, () -> x.start(1));
        c.due("15: lead 0", 0, () -> x.convoyOf(1, 2));
        c.due("15: strain", 4, () -> x.mileOf(0, 1));
        c.due("15: a truck came", 1, () -> x.mileOf(0, 4));
        c.refused("15: has started", x, 4, 1, () -> x.start(1));
        x.join(0, 0, x.truck(0, 60, 2, 0));
        c.refused("15: the way is asked ahead of the ice", x, 7, 0, () -> x.start(0));
        x.drill(1);
        x.roll(1);
        c.refused("15: too heavy", x, 8, 0, () -> x.start(0));
        IceConvoys tank = new IceConvoys();
        tank.convoy(1);
        tank.join(0, 1, tank.truck(1, 34, 5, 1));
        tank.drill(0);
        c.refused("15: a tank of 36.5 tonnes", tank, 8, 0, () -> tank.start(0));
        IceConvoys light = new IceConvoys();
        light.convoy(1);
        light.join(0, 1, light.truck(1, 34, 4, 1));
        light.drill(0);
        c.due("15: a tank of 36 tonnes", 1, () -> light.start(0));
    }

    private void p16Roll() {
        IceConvoys x = withConvoy(1, 20, 9);
        for (int odd : new int[] {-1, 1, 4, Integer.MIN_VALUE, Integer.MAX_VALUE}) {
            c.due("16: no convoy", INDEX, () -> x.roll(odd));
        }
        c.refused("16: has not started", x, 4, 0, () -> x.roll(0));
        x.drill(0);
        x.start(0);
        c.refused("16: the next mile is not drilled", x, 8, 1, () -> x.roll(0));
        c.due("16: the lead stays", 0, () -> x.convoyOf(0, 2));
        drillAll(x);
        c.due("16: one at a mile", 1, () -> x.roll(0));
        c.due("16: two at miles", 2, () -> x.roll(0));
        roll(x, 0, 9);
        c.due("16: the lead is at the last mile", 11, () -> x.convoyOf(0, 2));
        c.due("16: nothing delivered", 0, () -> x.account(7));
        c.due("16: the first arrives", 1, () -> x.roll(0));
        c.due("16: delivered", 20, () -> x.account(7));
        c.due("16: the second at the last mile", 1, () -> x.roll(0));
        c.due("16: the second arrives", 0, () -> x.roll(0));
        c.due("16: both delivered", 29, () -> x.account(7));
        c.due("16: the last mile's strain", 4, () -> x.mileOf(11, 1));
        c.refused("16: done", x, 6, 0, () -> x.roll(0));
        c.due("16: the lead when done", 14, () -> x.convoyOf(0, 2));
    }

    private void p16RollInTheWay() {
        IceConvoys x = withConvoy(1, 10, 10, 10);
        addConvoy(x, 3, 10, 10);
        drillAll(x);
        x.start(0);
        roll(x, 0, 1);
        x.start(1);
        c.refused("16: in the way", x, 7, 1, () -> x.roll(1));
        c.refused("16: the second truck's mile is taken", x, 7, 0, () -> x.roll(0));
        x.set(1, 0);
        c.refused("16: the way of all trucks ahead of the ice", x, 7, 0, () -> x.roll(0));
        x.set(1, 100);
        IceConvoys y = withConvoy(1, 10, 10);
        drillAll(y);
        y.start(0);
        roll(y, 0, 1);
        y.pass(7);
        y.drill(0);
        y.pass(1);
        c.refused("16: the first truck by places", y, 8, 2, () -> y.roll(0));
        y.drill(2);
        c.due("16: both miles are good", 2, () -> y.roll(0));
    }

    private void p16Cracks() {
        IceConvoys x = new IceConvoys();
        x.set(0, -40);
        for (int k = 0; k < 20; k++) {
            x.pass(30);
        }
        x.set(0, -20);
        drillAll(x);
        int came = 0;
        for (int convoy = 0; convoy < 4; convoy++) {
            addConvoy(x, 1, 60, 60, 60, 60);
            x.start(convoy);
            for (int k = 0; x.convoyOf(convoy, 5) == 0; k++) {
                x.roll(convoy);
            }
            came += 4;
            int total = came;
            c.due("16: cracks by strain", Math.min(5, 7 * total / 20), () -> x.mileOf(3, 0));
            c.due("16: strain is kept", 7 * total % 20, () -> x.mileOf(3, 1));
        }
        c.due("16: at most 5 cracks", 60, () -> x.account(9));
        c.due("16: sign of 5 cracks", '5', () -> x.sign(11));
        x.pass(1);
        c.due("16: no healing at -20", 5, () -> x.mileOf(0, 0));
        x.set(0, -21);
        x.pass(1);
        c.due("16: healing below -20", 4, () -> x.mileOf(0, 0));
        x.pass(9);
        c.due("16: at least 0", 0, () -> x.mileOf(0, 0));
    }

    private void p17Why() {
        IceConvoys x = withConvoy(1, 20);
        addConvoy(x, 1, 5);
        x.convoy(1);
        for (int odd : new int[] {-1, 3, Integer.MIN_VALUE, Integer.MAX_VALUE}) {
            c.due("17: no convoy", INDEX, () -> x.why(odd, false));
        }
        dueWhy(x, 1, 4, 1);
        dueWhy(x, 2, 4, 2);
        drillAll(x);
        x.start(0);
        dueWhy(x, 0, 0, 0);
        x.set(1, 10);
        dueWhy(x, 0, 8, 1);
        x.set(1, 100);
        x.roll(0);
        x.start(1);
        dueWhy(x, 1, 7, 1);
        roll(x, 0, 11);
        dueWhy(x, 0, 6, 0);
        dueWhy(x, 1, 0, 0);
        c.due("17: nothing was refused", NONE, () -> x.refusal(false));
    }

    private void dueWhy(IceConvoys x, int convoy, int reason, int detail) {
        c.due("17: reason", reason, () -> x.why(convoy, false));
        c.due("17: detail", detail, () -> x.why(convoy, true));
    }

    private void p18ConvoyOf() {
        IceConvoys x = withConvoy(2, 10, 11, 12);
        c.due("18: no convoy first", INDEX, () -> x.convoyOf(1, 9));
        c.due("18: no convoy", INDEX, () -> x.convoyOf(-1, 0));
        c.due("18: no number", ARGUMENT, () -> x.convoyOf(0, 6));
        c.due("18: no number", ARGUMENT, () -> x.convoyOf(0, -1));
        dueConvoyOf(x, 2, 3, -1, 0, 0, 0);
        drillAll(x);
        x.start(0);
        dueConvoyOf(x, 2, 3, 0, 1, 0, 0);
        roll(x, 0, 11);
        dueConvoyOf(x, 2, 3, 11, 3, 0, 0);
        roll(x, 0, 1);
        dueConvoyOf(x, 2, 3, 12, 2, 1, 0);
        roll(x, 0, 3);
        dueConvoyOf(x, 2, 3, 15, 1, 2, 0);
        roll(x, 0, 2);
        dueConvoyOf(x, 2, 3, 17, 1, 2, 0);
        roll(x, 0, 1);
        dueConvoyOf(x, 2, 3, 18, 0, 3, 1);
        x.convoy(3);
        c.due("18: a convoy without trucks is not done", 0, () -> x.convoyOf(1, 5));
    }

    private void dueConvoyOf(IceConvoys x, int... numbers) {
        for (int what = 0; what < numbers.length; what++) {
            int w = what;
            c.due("18: number " + w, numbers[w], () -> x.convoyOf(0, w));
        }
    }

    private void p19p20TrucksOfConvoys() {
        IceConvoys x = withConvoy(3, 25, 31);
        x.join(0, 1, x.truck(1, 5, 5, 1));
        for (int odd : new int[] {-1, 3, 4, Integer.MIN_VALUE, Integer.MAX_VALUE}) {
            c.due("19: no convoy first", INDEX, () -> x.truckOf(odd, 0, 9));
            c.due("19: no place first", INDEX, () -> x.truckOf(0, odd, 9));
            c.due("20: no convoy", INDEX, () -> x.load(odd, 0));
            c.due("20: no place", INDEX, () -> x.load(0, odd));
        }
        c.due("19: no number", ARGUMENT, () -> x.truckOf(0, 0, 4));
        c.due("19: no number", ARGUMENT, () -> x.truckOf(0, 0, -1));
        c.due("19: flat", 0, () -> x.truckOf(0, 0, 0));
        c.due("19: tank", 1, () -> x.truckOf(0, 2, 0));
        c.due("19: weight", 31, () -> x.truckOf(0, 1, 1));
        c.due("19: axles", 5, () -> x.truckOf(0, 2, 2));
        c.due("20: flat", 25.0f, () -> x.load(0, 0));
        c.due("20: tank", 7.5f, () -> x.load(0, 2));
        for (int place = 0; place < 3; place++) {
            int p = place;
            c.due("19: has not started", -1, () -> x.truckOf(0, p, 3));
        }
        drillAll(x);
        x.start(0);
        c.due("19: the first", 0, () -> x.truckOf(0, 0, 3));
        c.due("19: has not come to the road", -4, () -> x.truckOf(0, 1, 3));
        c.due("19: the third", -8, () -> x.truckOf(0, 2, 3));
        roll(x, 0, 13);
        c.due("19: has arrived", 13, () -> x.truckOf(0, 0, 3));
        c.due("19: at a mile", 9, () -> x.truckOf(0, 1, 3));
        c.due("19: behind it", 5, () -> x.truckOf(0, 2, 3));
    }

    private void p21At() {
        IceConvoys x = withConvoy(1, 10);
        addConvoy(x, 1, 10, 10);
        for (int mile : NO_MILES) {
            c.due("21: no mile", INDEX, () -> x.at(mile));
        }
        c.due("21: none", NONE, () -> x.at(0));
        drillAll(x);
        x.start(1);
        roll(x, 1, 4);
        x.start(0);
        c.due("21: convoy 1, place 0", 10, () -> x.at(4));
        c.due("21: convoy 1, place 1", 11, () -> x.at(2));
        c.due("21: convoy 0, place 0", 0, () -> x.at(0));
        c.due("21: between", NONE, () -> x.at(3));
        roll(x, 1, 8);
        c.due("21: arrived", NONE, () -> x.at(11));
        c.due("21: the last", 11, () -> x.at(10));
    }

    private void p22p23Rolls() {
        IceConvoys x = withConvoy(1, 20, 30);
        addConvoy(x, 3, 10, 10, 10, 10);
        for (int odd : new int[] {-1, 2, Integer.MIN_VALUE, Integer.MAX_VALUE}) {
            c.due("22: no convoy", INDEX, () -> x.rolls(odd));
            c.due("23: no convoy", INDEX, () -> x.rollsAgain(odd));
        }
        dueRolls(x, 0, 0);
        drillAll(x);
        dueRolls(x, 0, 0);
        x.start(0);
        dueRolls(x, 0, 14);
        roll(x, 0, 2);
        x.set(1, 80);
        dueRolls(x, 0, 0);
        x.set(1, 100);
        roll(x, 0, 12);
        dueRolls(x, 0, 0);
        x.start(1);
        dueRolls(x, 1, 24);
    }

    private void dueRolls(IceConvoys x, int convoy, int want) {
        c.due("22: rolls", want, () -> x.rolls(convoy));
        c.due("23: rolls", want, () -> x.rollsAgain(convoy));
    }

    private void p22p23RollsThroughOwnCracks() {
        IceConvoys x = withConvoy(1, 60, 60, 60, 59);
        while (x.ice(0) * x.ice(0) * 0.04f < 60.0f) {
            x.pass(1);
        }
        drillAll(x);
        x.start(0);
        dueRolls(x, 0, 5);
        roll(x, 0, 2);
        dueRolls(x, 0, 3);
        roll(x, 0, 3);
        dueRolls(x, 0, 0);
        c.due("22: the fourth is stopped by the crack", 8, () -> x.why(0, false));
        c.due("22: at the mile 0", 0, () -> x.why(0, true));
        IceConvoys y = withConvoy(3, 10);
        addConvoy(y, 1, 10, 10);
        drillAll(y);
        y.start(0);
        roll(y, 0, 6);
        y.start(1);
        dueRolls(y, 1, 5);
        dueRolls(y, 0, 6);
        c.due("22: nothing changes", 6, () -> y.convoyOf(0, 2));
        IceConvoys just = withConvoy(1, 36);
        drillAll(just);
        just.start(0);
        dueRolls(just, 0, 12);
    }

    /** Only the mile 5 is so thin that a crack by the first three trucks stops the fourth one there. */
    private void p22p23RollsThroughCracksAhead() {
        dueRolls(withThinMile5(50, 50, 60), 0, 18);
        dueRolls(withThinMile5(50, 60, 50), 0, 18);
        dueRolls(withThinMile5(60, 50, 50), 0, 18);
        dueRolls(withThinMile5(50, 60, 60), 0, 10);
        dueRolls(withThinMile5(60, 50, 60), 0, 10);
        dueRolls(withThinMile5(60, 60, 50), 0, 10);
        IceConvoys x = withThinMile5(60, 60, 50);
        roll(x, 0, 7);
        dueRolls(x, 0, 3);
        roll(x, 0, 3);
        dueRolls(x, 0, 0);
        c.due("22: at the mile 5", 5, () -> x.why(0, true));
    }

    private static IceConvoys withThinMile5(int first, int second, int third) {
        IceConvoys x = withConvoy(1, first, second, third, 60);
        while (x.ice(5) * x.ice(5) * 0.04f < 60.0f) {
            x.pass(1);
        }
        x.drill(5);
        x.pass(6);
        for (int mile = 0; mile < 12; mile++) {
            if (mile != 5) {
                x.drill(mile);
            }
        }
        x.start(0);
        return x;
    }

    private void p24IceIn() {
        IceConvoys x = new IceConvoys();
        for (int mile : NO_MILES) {
            c.due("24: no mile first", INDEX, () -> x.iceIn(mile, 61));
        }
        for (int days : new int[] {-1, 61, Integer.MIN_VALUE, Integer.MAX_VALUE}) {
            c.due("24: days", ARGUMENT, () -> x.iceIn(0, days));
        }
        c.due("24: now", bits(30.0f), () -> x.iceIn(0, 0));
        c.due("24: in a day", bits(30.75f), () -> x.iceIn(11, 1));
        c.due("24: in 60 days", bits(grown(30.0f, 20, 60)), () -> x.iceIn(3, 60));
        c.due("24: nothing changes", 30.0f, () -> x.ice(3));
        x.set(0, 10);
        c.due("24: melting", bits(30.0f - 4.0f - 4.0f), () -> x.iceIn(0, 2));
        c.due("24: no ice", 0, () -> x.iceIn(0, 60));
        x.set(0, -40);
        for (int k = 0; k < 20; k++) {
            x.pass(30);
        }
        c.due("24: at most 200.0f", bits(grownAtMost(30.0f, 40, 660)), () -> x.iceIn(0, 60));
    }

    private void p25BearsIn() {
        IceConvoys x = new IceConvoys();
        for (int mile : NO_MILES) {
            c.due("25: no mile first", INDEX, () -> x.bearsIn(mile, 0));
        }
        for (int tonnes : new int[] {0, 100, Integer.MIN_VALUE, Integer.MAX_VALUE}) {
            c.due("25: tonnes", ARGUMENT, () -> x.bearsIn(0, tonnes));
        }
        c.due("25: now, just 36 tonnes", 0, () -> x.bearsIn(0, 36));
        c.due("25: in a day", 1, () -> x.bearsIn(11, 37));
        c.due("25: the most", 33, () -> x.bearsIn(0, 99));
        x.set(1, 0);
        c.due("25: at a limit of 100 percent", 0, () -> x.bearsIn(0, 36));
        x.set(0, 0);
        c.due("25: never", NONE, () -> x.bearsIn(0, 37));
        x.set(0, 10);
        c.due("25: melting, now", 0, () -> x.bearsIn(0, 1));
        int[] byDays = new int[92];
        x.set(0, -6);
        float ice = 30.0f;
        for (int day = 0; day <= 91; day++) {
            byDays[day] = (int) (ice * ice * 0.04f);
            ice = grown(ice, 6, 1);
        }
        c.due("25: on the 90th day", 90, () -> x.bearsIn(0, byDays[90]));
        x.set(0, -4);
        int late = firstTonnesAfter90Days(30.0f, 4);
        c.due("25: not within 90 days", NONE, () -> x.bearsIn(0, late));
        c.due("25: nothing changes", 30.0f, () -> x.ice(0));
    }

    private static int firstTonnesAfter90Days(float ice, int cold) {
        float last = grown(ice, cold, 90);
        return (int) (last * last * 0.04f) + 1;
    }

    private void p26Pass() {
        IceConvoys x = new IceConvoys();
        for (int days : new int[] {0, 31, -1, Integer.MIN_VALUE, Integer.MAX_VALUE}) {
            c.due("26: days", ARGUMENT, () -> x.pass(days));
        }
        c.due("26: the day stays", 0, () -> x.account(0));
        x.drill(0);
        c.due("26: still good", 0, () -> x.pass(3));
        x.drill(5);
        x.drill(6);
        c.due("26: good on the last day", 0, () -> x.pass(4));
        c.due("26: one is not good any more", 1, () -> x.pass(1));
        c.due("26: two more of three", 2, () -> x.pass(30));
        c.due("26: none was good", 0, () -> x.pass(1));
        c.due("26: the day", 39, () -> x.account(0));
        c.due("26: the ice", grown(30.0f, 20, 39), () -> x.ice(7));
        x.set(2, 1);
        x.drill(0);
        c.due("26: good for one day", 0, () -> x.pass(1));
        c.due("26: not for two", 1, () -> x.pass(1));
    }

    private void p27Append() {
        IceConvoys x = new IceConvoys();
        for (int k = 1; k <= 60; k++) {
            int n = k;
            c.due("27: characters", n, () -> x.append((char) (n * 1091)));
        }
        c.due("27: full", STATE, () -> x.append('d'));
        c.due("27: 60 characters", 60, () -> x.account(13));
        c.due("27: no change", 0, () -> x.account(14));
        c.due("28: an error", ARGUMENT, x::read);
        c.due("27: empty again", 1, () -> x.append('d'));
    }

    private void p28Read() {
        IceConvoys x = withConvoy(1);
        x.truck(1, 12, 3, 1);
        x.truck(0, 10, 2, 0);
        x.truck(0, 11, 2, 0);
        c.due("28: one order", 1, () -> read(x, "t-7"));
        c.due("28: a temperature below 0", -7, () -> x.setting(0));
        c.due("28: t10", 1, () -> read(x, "t10"));
        c.due("28: a temperature", 10, () -> x.setting(0));
        c.due("28: t-0", 1, () -> read(x, "t-00"));
        c.due("28: no sign of 0", 0, () -> x.setting(0));
        c.due("28: t-40", 1, () -> read(x, "t-40"));
        c.due("28: all kinds", 8, () -> read(x, "j0:0.1;j0:1.0;d0;d1;d00;s0;r0;p2"));
        c.due("28: the one at the place 1 joined", 11, () -> x.truckOf(0, 0, 1));
        c.due("28: the tank joined", 12, () -> x.truckOf(0, 1, 1));
        c.due("28: started and rolled", 1, () -> x.convoyOf(0, 2));
        c.due("28: drills", 3, () -> x.account(11));
        c.due("28: days", 2, () -> x.account(0));
        c.due("28: a change", 8, () -> x.account(14));
        c.due("28: empty afterwards", 0, () -> x.account(13));
        c.due("28: one change for all orders", 7, x::undo);
        c.due("28: as before", -1, () -> x.convoyOf(0, 2));
        c.due("28: the input is not undone", 0, () -> x.account(13));
        c.due("28: 20 orders in 60 characters", 20, () -> read(x, "d0;d1;d2;d3;d4;d5;d6;d7;d8;d9;d0;d1;d2;d3;d4;d5;d6;d7;d8;d11"));
        c.due("28: 20 drills", 20, () -> x.account(11));
        c.due("28: no error", -1, x::errorPosition);
    }

    private void p28ReadWrongOrders() {
        String[] wrong = {"d12", "d99", "s1", "s9", "r1", "r9", "t11", "t-41", "t99", "j1:0.0", "j0:2.0", "j0:0.5", "j0:0.1",
            "j0:1.0", "p0", "p00", "p31", "p99", "d0;p0", "j0:0.0;j0:0.0"};
        for (String text : wrong) {
            IceConvoys x = withConvoy(1);
            x.truck(0, 10, 2, 0);
            int changes = x.account(14);
            c.due("28: " + text, ARGUMENT, () -> read(x, text));
            c.due("28: its position", -1, x::errorPosition);
            c.due("28: empty afterwards", 0, () -> x.account(13));
            c.due("28: no refusal", NONE, () -> x.refusal(false));
            c.due("28: no change", changes, () -> x.account(14));
            c.due("28: nothing of it", 0, () -> x.account(11));
            c.due("28: nothing of it", 1, () -> x.account(1));
        }
    }

    private void p28AllOrNothing() {
        IceConvoys x = withConvoy(1, 10, 10);
        addConvoy(x, 1);
        x.truck(0, 37, 2, 0);
        type(x, "d0;d1;s0;r0;p1;t5;r0");
        c.refused("28: the mile 2 is not drilled", x, 8, 2, x::read);
        c.due("28: not started", -1, () -> x.convoyOf(0, 2));
        c.due("28: no drill", 0, () -> x.account(11));
        c.due("28: no strain", 0, () -> x.mileOf(0, 1));
        c.due("28: no day", 0, () -> x.account(0));
        c.due("28: the temperature", -20, () -> x.setting(0));
        c.due("28: no error position", -1, x::errorPosition);
        c.due("28: empty afterwards", 0, () -> x.account(13));
        type(x, "s1;d12");
        c.refused("28: the first order decides", x, 5, 1, x::read);
        type(x, "d12;s1");
        c.due("28: the first order decides", ARGUMENT, x::read);
        c.due("28: the reason stays", 5, () -> x.refusal(false));
        type(x, "j1:0.0;d0;s1");
        c.refused("28: too heavy", x, 8, 0, x::read);
        c.due("28: still in its row", 37, () -> x.inRow(0, 0, 0));
        type(x, "r1");
        c.refused("28: not started", x, 4, 1, x::read);
        type(x, "d0;s0;s0");
        c.refused("28: started", x, 4, 0, x::read);
        type(x, "d0;s0;j0:0.0");
        c.refused("28: may not join any more", x, 4, 0, x::read);
        for (int k = 0; k < 2; k++) {
            x.join(0, 0, x.truck(0, 10, 2, 0));
        }
        type(x, "j0:0.0");
        c.refused("28: there are 4", x, 1, 4, x::read);
    }

    private void p28p29Errors() {
        Object[][] errors = {{"", 0}, {"x", 0}, {";", 0}, {"5", 0}, {"D0", 0}, {" d0", 0}, {"d", 1}, {"dx", 1}, {"d-1", 1},
            {"d000", 3}, {"d0x", 2}, {"d0 ", 2}, {"d0;", 3}, {"d0;;", 3}, {"d12;q", 4}, {"s", 1}, {"sd", 1}, {"s00", 2}, {"r", 1},
            {"r0r", 2}, {"t", 1}, {"t-", 2}, {"t--1", 2}, {"t+1", 1}, {"t-100", 4}, {"t100", 3}, {"j", 1}, {"j0", 2}, {"j00", 2},
            {"j0:", 3}, {"j0.0", 2}, {"j0:0", 4}, {"j0:0:", 4}, {"j0:0.", 5}, {"j0:0.x", 5}, {"j0:0.00", 6}, {"p", 1}, {"p-1", 1},
            {"p1;", 3}, {"p1;d0;s0;r0;t1;j0:0.0;p", 23}, {"p000", 3}, {"d\u0661", 1}, {"\u0000", 0}, {"d/", 1}, {"d:", 1},
            {"d0;d1;d2;d3;d4;d5;d6;d7;d8;d9;d0;d1;d2;d3;d4;d5;d6;d7;d8;d9;", 60},
            {"d0;d1;d2;d3;d4;d5;d6;d7;d8;d9;d0;d1;d2;d3;d4;d5;d6;d7;d8;d9d", 59}};
        String[] earlier = {"", "0".repeat(60), ";".repeat(60), ":".repeat(60), ".".repeat(60), "-".repeat(60), "d".repeat(60)};
        for (int k = 0; k < errors.length * earlier.length; k++) {
            Object[] error = errors[k % errors.length];
            String text = earlier[k / errors.length];
            IceConvoys x = withConvoy(1, 10);
            c.due("28: an earlier text that must leave nothing", ARGUMENT, () -> read(x, text));
            c.due("28: " + error[0], ARGUMENT, () -> read(x, (String) error[0]));
            c.due("29: " + error[0], error[1], x::errorPosition);
            c.due("28: empty after " + error[0], 0, () -> x.account(13));
            c.due("28: nothing of " + error[0], 0, () -> x.account(11) + x.account(0));
            c.due("28: no change by " + error[0], 3, () -> x.account(14));
        }
    }

    private void p29ErrorStays() {
        IceConvoys x = new IceConvoys();
        c.due("29: not read", -1, x::errorPosition);
        x.save();
        x.drill(0);
        c.due("28: error", ARGUMENT, () -> read(x, "d0;d"));
        c.due("29: error", 4, x::errorPosition);
        type(x, "p1");
        x.undo();
        c.due("29: not undone", 4, x::errorPosition);
        c.due("27: the input is not undone", 2, () -> x.account(13));
        x.restore();
        c.due("29: not restored", 4, x::errorPosition);
        c.due("27: the input is not restored", 2, () -> x.account(13));
        c.due("28: read", 1, x::read);
        c.due("29: no error any more", -1, x::errorPosition);
    }

    private void p30Refusal() {
        IceConvoys x = new IceConvoys();
        c.due("30: nothing", NONE, () -> x.refusal(false));
        c.due("30: no detail", NONE, () -> x.refusal(true));
        x.save();
        x.drill(0);
        c.refused("30: refused", x, 3, 1, () -> x.truck(0, 5, 2, 1));
        x.undo();
        c.due("30: not undone", 3, () -> x.refusal(false));
        x.restore();
        c.due("30: not restored", 1, () -> x.refusal(true));
        x.convoy(1);
        c.due("30: a success is no refusal", 3, () -> x.refusal(false));
        c.due("30: another exception is none", INDEX, () -> x.start(2));
        c.due("30: it stays", 3, () -> x.refusal(false));
        c.refused("30: the latest", x, 5, 0, () -> x.start(0));
    }

    private void p31Accounts() {
        IceConvoys x = withConvoy(1, 20, 30);
        addConvoy(x, 3, 7);
        x.convoy(1);
        x.truck(0, 8, 2, 0);
        x.truck(1, 9, 2, 1);
        for (int what : new int[] {-1, 15, Integer.MIN_VALUE, Integer.MAX_VALUE}) {
            c.due("31: no account", ARGUMENT, () -> x.account(what));
        }
        dueAccounts(x, 0, 2, 3, 0, 0, 0, 0, 0, 74, 0, 0, 0, 74, 0, 8);
        drillAll(x);
        dueAccounts(x, 0, 2, 3, 0, 0, 0, 0, 0, 74, 0, 12, 12, 74, 0, 8);
        x.start(0);
        roll(x, 0, 2);
        dueAccounts(x, 0, 2, 3, 1, 0, 2, 0, 0, 74, 0, 12, 12, 74, 0, 8);
        roll(x, 0, 10);
        x.start(1);
        x.append('d');
        dueAccounts(x, 0, 2, 3, 2, 0, 2, 1, 20, 54, 0, 12, 12, 74, 1, 8);
        roll(x, 0, 2);
        dueAccounts(x, 0, 2, 3, 1, 1, 1, 2, 50, 24, 0, 12, 12, 74, 1, 8);
        x.pass(8);
        x.drill(3);
        dueAccounts(x, 8, 2, 3, 1, 1, 1, 2, 50, 24, 0, 1, 13, 74, 1, 8);
        addConvoy(x, 1, 60, 5, 5, 5);
        dueAccounts(x, 8, 2, 4, 1, 1, 1, 2, 50, 99, 0, 1, 13, 149, 1, 8);
        c.due("21: no truck with 4 convoys", NONE, () -> x.at(11));
    }

    private void dueAccounts(IceConvoys x, int... accounts) {
        for (int what = 0; what < accounts.length; what++) {
            int w = what;
            c.due("31: account " + w, accounts[w], () -> x.account(w));
        }
        c.due("32: well", true, x::isWell);
    }

    private void p32IsWell() {
        IceConvoys x = new IceConvoys();
        c.due("32: a new road", true, x::isWell);
        addConvoy(x, 1, 10, 60, 5);
        x.set(0, 10);
        x.pass(30);
        c.due("32: no ice", true, x::isWell);
        x.undo();
        x.set(0, -40);
        x.pass(30);
        drillAll(x);
        x.start(0);
        for (int k = 0; k < 16; k++) {
            x.roll(0);
            c.due("32: under way", true, x::isWell);
        }
        c.due("32: all arrived", 75, () -> x.account(7));
        x.undo();
        c.due("32: undone", true, x::isWell);
        addConvoy(x, 1, 5, 5);
        x.start(1);
        roll(x, 1, 5);
        addConvoy(x, 1, 5, 5);
        x.start(2);
        roll(x, 2, 2);
        c.due("32: trucks side by side", 5, () -> x.account(5));
        c.due("32: well", true, x::isWell);
        for (int k = 0; k < 13; k++) {
            x.pass(30);
        }
        c.due("32: all ice is 200.0f", 200.0f, () -> x.ice(11));
        c.due("32: the thickest ice", true, x::isWell);
    }

    private void p33MeanBits() {
        IceConvoys x = new IceConvoys();
        c.due("33: 30.0", Double.doubleToLongBits(30.0), x::meanBits);
        x.pass(13);
        double sum = 0.0;
        for (int mile = 0; mile < 12; mile++) {
            sum += x.ice(mile);
        }
        double mean = sum / 12.0;
        c.due("33: a mean", Double.doubleToLongBits(mean), x::meanBits);
        x.set(0, 10);
        x.pass(30);
        c.due("33: no ice", 0L, x::meanBits);
    }

    private void p34Share() {
        IceConvoys x = new IceConvoys();
        c.due("34: none came", ArithmeticException.class, x::share);
        addConvoy(x, 1, 20);
        x.truck(0, 7, 2, 0);
        c.due("34: nothing delivered", 0.0f, x::share);
        drillAll(x);
        x.start(0);
        roll(x, 0, 12);
        c.due("34: 20 of 27", 20.0f / 27.0f, x::share);
    }

    private void p35Undo() {
        IceConvoys x = new IceConvoys();
        c.due("35: no change", STATE, x::undo);
        for (int k = 1; k <= 10; k++) {
            x.pass(1);
        }
        c.due("35: at most 8", 8, () -> x.account(14));
        for (int k = 7; k >= 0; k--) {
            int left = k;
            c.due("35: undo", left, x::undo);
            c.due("35: the day", left + 2, () -> x.account(0));
        }
        c.due("35: no more", STATE, x::undo);
        c.due("35: the day stays", 2, () -> x.account(0));
        x.pass(5);
        c.due("35: a new change", 0, x::undo);
        c.due("35: undone", 2, () -> x.account(0));
        x.set(0, -20);
        c.due("35: a change without a difference", 1, () -> x.account(14));
        c.due("35: no exception is a change", ARGUMENT, () -> x.set(0, 50));
        c.due("35: still one", 1, () -> x.account(14));
    }

    private void p35UndoOfEachChange() {
        IceConvoys x = withConvoy(1, 30, 30, 30);
        x.pass(1);
        x.set(0, 5);
        x.undo();
        c.due("35: set", -20, () -> x.setting(0));
        x.truck(1, 40, 3, 1);
        x.undo();
        c.due("35: truck", NONE, () -> x.inRow(1, 0, 0));
        c.due("35: its tonnes", 90, () -> x.account(12));
        x.drill(0);
        x.undo();
        c.due("35: drill", NONE, () -> x.drilled(0));
        c.due("35: drills so far", 0, () -> x.account(11));
        x.convoy(3);
        x.undo();
        c.due("35: convoy", 1, () -> x.account(2));
        c.due("35: convoy again", 1, () -> x.convoy(2));
        c.due("35: its gap", 2, () -> x.convoyOf(1, 0));
        c.due("35: it has no trucks", 0, () -> x.convoyOf(1, 1));
        x.truck(0, 11, 2, 0);
        x.join(1, 0, 0);
        x.undo();
        c.due("35: join", 0, () -> x.convoyOf(1, 1));
        c.due("35: in its row again", 11, () -> x.inRow(0, 0, 0));
        drillAll(x);
        x.start(0);
        x.undo();
        c.due("35: start", -1, () -> x.convoyOf(0, 2));
        c.due("35: strain", 0, () -> x.mileOf(0, 1));
        c.due("35: how often trucks came", 0, () -> x.mileOf(0, 4));
        x.start(0);
        roll(x, 0, 11);
        x.roll(0);
        x.undo();
        c.due("35: roll", 11, () -> x.convoyOf(0, 2));
        c.due("35: nothing delivered", 0, () -> x.account(7));
        x.pass(9);
        x.undo();
        c.due("35: pass, the day", 1, () -> x.account(0));
        c.due("35: pass, the ice", 30.75f, () -> x.ice(5));
        c.due("35: pass, the drills", 12, () -> x.account(10));
    }

    private void p36p37Snapshot() {
        IceConvoys x = new IceConvoys();
        c.due("37: no snapshot", STATE, x::restore);
        c.due("36: no convoys", 0, x::save);
        c.due("37: no convoys", 0, x::restore);
        addConvoy(x, 1, 10, 10);
        drillAll(x);
        x.start(0);
        c.due("36: one convoy", 1, x::save);
        c.due("36: no change", 8, () -> x.account(14));
        x.convoy(2);
        roll(x, 0, 3);
        x.set(1, 50);
        x.pass(3);
        c.due("37: restore", 1, x::restore);
        c.due("37: forgets changes", 0, () -> x.account(14));
        c.due("37: nothing to undo", STATE, x::undo);
        c.due("37: the lead", 0, () -> x.convoyOf(0, 2));
        c.due("37: the limit", 100, () -> x.setting(1));
        c.due("37: the day", 0, () -> x.account(0));
        c.due("37: the ice", 30.0f, () -> x.ice(0));
        c.due("37: no strain ahead", 0, () -> x.mileOf(1, 1));
        c.due("37: the other convoy", INDEX, () -> x.convoyOf(1, 0));
        roll(x, 0, 2);
        c.due("37: the snapshot stays", 1, x::restore);
        c.due("37: the lead again", 0, () -> x.convoyOf(0, 2));
        x.roll(0);
        x.undo();
        c.due("37: undo after it", 0, () -> x.convoyOf(0, 2));
        x.convoy(3);
        c.due("36: in place of an earlier one", 2, x::save);
        x.undo();
        c.due("37: undo leaves the snapshot", 2, x::restore);
    }
}
