import java.util.ArrayList;
import java.util.List;

/**
 * All that the calls tell of a road, in some 370 calls: what changes can change, then the history, by undoing
 * it, and the snapshot, by going back to it. The road is of no use afterwards.
 */
final class Look {
    private final IceConvoys x;
    private final List<String> seen = new ArrayList<>();

    private Look(IceConvoys x) {
        this.x = x;
    }

    static List<String> atAll(IceConvoys x) {
        Look look = new Look(x);
        look.addAsides();
        look.addChangeable();
        look.addHistoryAndSnapshot();
        return look.seen;
    }

    /** Without the input, the error position and the reason. */
    static List<String> atChangeable(IceConvoys x) {
        Look look = new Look(x);
        look.addChangeable();
        look.addHistoryAndSnapshot();
        return look.seen;
    }

    /** What changes can change, but for how many of them can be undone. */
    static List<String> atRoad(IceConvoys x) {
        Look look = new Look(x);
        look.addChangeable();
        look.seen.removeIf(line -> line.startsWith("account(14)"));
        return look.seen;
    }

    static String difference(List<String> one, List<String> other) {
        for (int k = 0; k < one.size() && k < other.size(); k++) {
            if (!one.get(k).equals(other.get(k))) {
                return one.get(k) + " and " + other.get(k);
            }
        }
        return one.size() == other.size() ? "none" : "in length";
    }

    private void ask(String what, Checks.Call call) {
        seen.add(what + " = " + Checks.outcome(call));
    }

    private void addAsides() {
        ask("refusal(false)", () -> x.refusal(false));
        ask("refusal(true)", () -> x.refusal(true));
        ask("errorPosition()", x::errorPosition);
        ask("account(13)", () -> x.account(13));
    }

    private void addChangeable() {
        addAccounts("");
        for (int what = 0; what < 3; what++) {
            int w = what;
            ask("setting(" + w + ")", () -> x.setting(w));
        }
        for (int mile = 0; mile < 12; mile++) {
            addMile(mile);
        }
        for (int place = 0; place < 10; place++) {
            int row = place / 5;
            int p = place % 5;
            ask("inRow(" + row + ", " + p + ", 0)", () -> x.inRow(row, p, 0));
            ask("inRow(" + row + ", " + p + ", 1)", () -> x.inRow(row, p, 1));
        }
        for (int convoy = 0; convoy < x.account(2); convoy++) {
            addConvoy(convoy);
        }
        ask("weakest()", x::weakest);
        ask("isWell()", x::isWell);
        ask("meanBits()", x::meanBits);
        ask("share()", x::share);
    }

    private void addAccounts(String when) {
        for (int what = 0; what <= 14; what++) {
            int w = what;
            if (what != 13) {
                ask(when + "account(" + w + ")", () -> x.account(w));
            }
        }
    }

    private void addMile(int mile) {
        for (int what = 0; what <= 4; what++) {
            int w = what;
            ask("mileOf(" + mile + ", " + w + ")", () -> x.mileOf(mile, w));
        }
        ask("ice(" + mile + ")", () -> x.ice(mile));
        ask("drilled(" + mile + ")", () -> x.drilled(mile));
        ask("bears(" + mile + ")", () -> x.bears(mile));
        ask("sign(" + mile + ")", () -> x.sign(mile));
        ask("at(" + mile + ")", () -> x.at(mile));
    }

    private void addConvoy(int convoy) {
        for (int what = 0; what <= 5; what++) {
            int w = what;
            ask("convoyOf(" + convoy + ", " + w + ")", () -> x.convoyOf(convoy, w));
        }
        ask("why(" + convoy + ", false)", () -> x.why(convoy, false));
        ask("why(" + convoy + ", true)", () -> x.why(convoy, true));
        for (int place = 0; place < x.convoyOf(convoy, 1); place++) {
            int p = place;
            for (int what = 0; what <= 3; what++) {
                int w = what;
                ask("truckOf(" + convoy + ", " + p + ", " + w + ")", () -> x.truckOf(convoy, p, w));
            }
        }
    }

    private void addHistoryAndSnapshot() {
        for (int undone = 1; x.account(14) > 0 && undone <= 8; undone++) {
            ask("undo() " + undone, x::undo);
            addAccounts("after " + undone + " undos, ");
        }
        ask("restore()", x::restore);
        addAccounts("restored, ");
    }
}
