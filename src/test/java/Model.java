import java.util.ArrayDeque;
import java.util.ArrayList;
import java.util.Deque;
import java.util.List;
import java.util.NoSuchElementException;
import java.util.TreeMap;
import java.util.regex.Matcher;
import java.util.regex.Pattern;

/**
 * The document told a second time, from its words and by other means than the class: exceptions
 * and whole copies in place of codes, Float.floatToIntBits, a regular expression for the texts.
 * RandomRunsTest compares the two.
 */
public final class Model {
    private static final Pattern TEXT;

    static {
        String order = "(?:[dp]\\d\\d?|[sr]\\d|t-?\\d\\d?|j\\d:\\d\\.\\d)";
        TEXT = Pattern.compile((order + "(?:;" + order + ")*").replace("\\d", "[0-9]"));
    }

    private static final class Refused extends UnsupportedOperationException {
        private static final long serialVersionUID = 1L;
        final int reason;
        final int detail;

        Refused(int reason, int detail) {
            this.reason = reason;
            this.detail = detail;
        }
    }

    private static final class Lorry {
        final int kind;
        final int tonnes;
        final int axles;

        Lorry(int kind, int tonnes, int axles) {
            this.kind = kind;
            this.tonnes = tonnes;
            this.axles = axles;
        }

        float load() {
            float load = tonnes;
            if (kind == 1) {
                load += 0.5f * axles;
            }
            return load;
        }
    }

    private static final class Train {
        final int gap;
        int lead = -1;
        final List<Lorry> lorries = new ArrayList<>();

        Train(int gap) {
            this.gap = gap;
        }

        /** The mile of the truck k, as the Terms tell it; only for a convoy that has started. */
        int mile(int k) {
            return lead - k * (gap + 1);
        }

        List<Integer> miles() {
            List<Integer> miles = new ArrayList<>();
            for (int k = 0; lead >= 0 && k < lorries.size(); k++) {
                miles.add(mile(k));
            }
            return miles;
        }

        int onRoad() {
            return (int) miles().stream().filter(m -> m >= 0 && m <= 11).count();
        }

        int arrived() {
            return (int) miles().stream().filter(m -> m >= 12).count();
        }

        boolean done() {
            return lead >= 0 && arrived() == lorries.size();
        }
    }

    private static final class State {
        int[] settings = {-20, 100, 7};
        int day;
        float[] ice = new float[12];
        int[] cracks = new int[12];
        int[] strain = new int[12];
        int[] came = new int[12];
        TreeMap<Integer, float[]> drills = new TreeMap<>();
        List<TreeMap<Integer, Lorry>> rows = List.of(new TreeMap<>(), new TreeMap<>());
        List<Train> trains = new ArrayList<>();
        int drillsSoFar;
        int tonnesSoFar;
        int tonnesThere;

        State() {
            java.util.Arrays.fill(ice, 30.0f);
        }

        State copy() {
            State c = new State();
            c.settings = settings.clone();
            c.day = day;
            c.ice = ice.clone();
            c.cracks = cracks.clone();
            c.strain = strain.clone();
            c.came = came.clone();
            c.drills = new TreeMap<>(drills);
            c.rows = List.of(new TreeMap<>(rows.get(0)), new TreeMap<>(rows.get(1)));
            for (Train t : trains) {
                Train u = new Train(t.gap);
                u.lead = t.lead;
                u.lorries.addAll(t.lorries);
                c.trains.add(u);
            }
            c.drillsSoFar = drillsSoFar;
            c.tonnesSoFar = tonnesSoFar;
            c.tonnesThere = tonnesThere;
            return c;
        }

        boolean good(int mile) {
            return drills.containsKey(mile) && day - (int) drills.get(mile)[1] <= settings[2];
        }

        float bears(int mile) {
            if (!good(mile)) {
                return 0.0f;
            }
            float noted = drills.get(mile)[0];
            float less = 1.0f - 0.1f * cracks[mile];
            float percent = settings[1] / 100.0f;
            return noted * noted * 0.04f * less * percent;
        }

        Train train(int convoy) {
            if (convoy < 0 || convoy >= trains.size()) {
                throw new IndexOutOfBoundsException();
            }
            return trains.get(convoy);
        }

        int set(int what, int value) {
            int[][] ranges = {{-40, 10}, {0, 100}, {1, 14}};
            if (what < 0 || what > 2 || value < ranges[what][0] || value > ranges[what][1]) {
                throw new IllegalArgumentException();
            }
            int before = settings[what];
            settings[what] = value;
            return before;
        }

        int drill(int mile) {
            requireMile(mile);
            drills.put(mile, new float[] {ice[mile], day});
            drillsSoFar++;
            return Float.floatToIntBits(ice[mile]);
        }

        int join(int convoy, int row, int place) {
            train(convoy);
            if (row < 0 || row > 1 || place < 0 || place > 4) {
                throw new IndexOutOfBoundsException();
            }
            if (!rows.get(row).containsKey(place)) {
                throw new NoSuchElementException();
            }
            Train t = train(convoy);
            if (t.lead >= 0) {
                throw new Refused(4, convoy);
            }
            if (t.lorries.size() == 4) {
                throw new Refused(1, 4);
            }
            t.lorries.add(rows.get(row).remove(place));
            return t.lorries.size();
        }

        int start(int convoy) {
            Train t = train(convoy);
            if (t.lead >= 0) {
                throw new Refused(4, convoy);
            }
            if (t.lorries.isEmpty()) {
                throw new Refused(5, convoy);
            }
            move(convoy);
            return t.lorries.size();
        }

        int roll(int convoy) {
            Train t = train(convoy);
            if (t.lead < 0) {
                throw new Refused(4, convoy);
            }
            if (t.done()) {
                throw new Refused(6, convoy);
            }
            move(convoy);
            return t.onRoad();
        }

        private void move(int convoy) {
            Train t = train(convoy);
            t.lead++;
            try {
                requireWay(convoy);
            } catch (Refused e) {
                t.lead--;
                throw e;
            }
            for (int k = 0; k < t.lorries.size(); k++) {
                int m = t.mile(k);
                int tonnes = t.lorries.get(k).tonnes;
                if (m == 12) {
                    tonnesThere += tonnes;
                }
                if (m < 0 || m > 11) {
                    continue;
                }
                came[m]++;
                strain[m] += 1 + tonnes / 10;
                if (strain[m] >= 20) {
                    strain[m] -= 20;
                    if (cracks[m] < 5) {
                        cracks[m]++;
                    }
                }
            }
        }

        private void requireWay(int convoy) {
            Train t = train(convoy);
            for (int m : t.miles()) {
                for (int other = 0; other < trains.size(); other++) {
                    if (other != convoy && m >= 0 && m <= 11 && trains.get(other).miles().contains(m)) {
                        throw new Refused(7, m);
                    }
                }
            }
            for (int k = 0; k < t.lorries.size(); k++) {
                int m = t.mile(k);
                if (m >= 0 && m <= 11 && !(bears(m) >= t.lorries.get(k).load())) {
                    throw new Refused(8, m);
                }
            }
        }

        void dayGoesBy() {
            for (int m = 0; m < 12; m++) {
                ice[m] = after(ice[m], settings[0]);
                if (settings[0] < -20 && cracks[m] > 0) {
                    cracks[m]--;
                }
            }
            day++;
        }

        int pass(int days) {
            if (days < 1 || days > 30) {
                throw new IllegalArgumentException();
            }
            boolean[] was = new boolean[12];
            for (int m = 0; m < 12; m++) {
                was[m] = good(m);
            }
            for (int d = 0; d < days; d++) {
                dayGoesBy();
            }
            int lost = 0;
            for (int m = 0; m < 12; m++) {
                lost += was[m] && !good(m) ? 1 : 0;
            }
            return lost;
        }
    }

    private State state = new State();
    private State saved;
    private final Deque<State> before = new ArrayDeque<>();
    private final StringBuilder input = new StringBuilder();
    private int errorAt = -1;
    private Refused latest;

    private static void requireMile(int mile) {
        if (mile < 0 || mile > 11) {
            throw new IndexOutOfBoundsException();
        }
    }

    private static void require(int what, int most) {
        if (what < 0 || what > most) {
            throw new IllegalArgumentException();
        }
    }

    private static float after(float ice, int temperature) {
        float next;
        if (temperature < 0) {
            float cold = -temperature;
            next = ice + cold * 1.5f / (ice + 10.0f);
        } else {
            next = ice - 0.4f * temperature;
        }
        return Math.min(200.0f, Math.max(0.0f, next));
    }

    private interface Change {
        int in(State s);
    }

    /** Does a change in a copy, which takes the state's place unless an exception is thrown. */
    private int change(Change c) {
        State copy = state.copy();
        int answer;
        try {
            answer = c.in(copy);
        } catch (Refused e) {
            latest = e;
            throw new UnsupportedOperationException();
        }
        before.push(state);
        if (before.size() > 8) {
            before.removeLast();
        }
        state = copy;
        return answer;
    }

    public int set(int what, int value) {
        return change(s -> s.set(what, value));
    }

    public int setting(int what) {
        require(what, 2);
        return state.settings[what];
    }

    public int drill(int mile) {
        return change(s -> s.drill(mile));
    }

    public int drilled(int mile) {
        requireMile(mile);
        if (!state.drills.containsKey(mile)) {
            throw new NoSuchElementException();
        }
        return Float.floatToIntBits(state.drills.get(mile)[0]);
    }

    public int mileOf(int mile, int what) {
        requireMile(mile);
        require(what, 4);
        int day = state.drills.containsKey(mile) ? (int) state.drills.get(mile)[1] : -1;
        int[] answers = {state.cracks[mile], state.strain[mile], day, state.good(mile) ? 1 : 0, state.came[mile]};
        return answers[what];
    }

    public float ice(int mile) {
        requireMile(mile);
        return state.ice[mile];
    }

    public int bears(int mile) {
        requireMile(mile);
        return Float.floatToIntBits(state.bears(mile));
    }

    public char sign(int mile) {
        requireMile(mile);
        if (truckAt(mile) >= 0) {
            return 'T';
        }
        return state.good(mile) ? "012345".charAt(state.cracks[mile]) : '?';
    }

    public int weakest() {
        int weakest = 11;
        for (int m = 10; m >= 0; m--) {
            if (state.bears(m) <= state.bears(weakest)) {
                weakest = m;
            }
        }
        return weakest;
    }

    public int truck(int kind, int weight, int axles, int row) {
        if (row < 0 || row > 1) {
            throw new IndexOutOfBoundsException();
        }
        if (kind < 0 || kind > 1 || weight < 5 || weight > 60 || axles < 2 || axles > 6) {
            throw new IllegalArgumentException();
        }
        return change(s -> {
            TreeMap<Integer, Lorry> places = s.rows.get(row);
            if (places.size() == 5) {
                throw new Refused(2, row);
            }
            if (kind != row) {
                throw new Refused(3, row);
            }
            int place = 0;
            while (places.containsKey(place)) {
                place++;
            }
            places.put(place, new Lorry(kind, weight, axles));
            s.tonnesSoFar += weight;
            return place;
        });
    }

    public int inRow(int row, int place, int what) {
        if (row < 0 || row > 1 || place < 0 || place > 4) {
            throw new IndexOutOfBoundsException();
        }
        Lorry lorry = state.rows.get(row).get(place);
        if (lorry == null) {
            throw new NoSuchElementException();
        }
        require(what, 1);
        return new int[] {lorry.tonnes, lorry.axles}[what];
    }

    public int convoy(int gap) {
        if (gap < 1 || gap > 3) {
            throw new IllegalArgumentException();
        }
        return change(s -> {
            if (s.trains.size() == 4) {
                throw new Refused(1, 4);
            }
            s.trains.add(new Train(gap));
            return s.trains.size() - 1;
        });
    }

    public int join(int convoy, int row, int place) {
        return change(s -> s.join(convoy, row, place));
    }

    public int start(int convoy) {
        return change(s -> s.start(convoy));
    }

    public int roll(int convoy) {
        return change(s -> s.roll(convoy));
    }

    public int why(int convoy, boolean isDetail) {
        try {
            state.copy().roll(convoy);
            return 0;
        } catch (Refused e) {
            return isDetail ? e.detail : e.reason;
        }
    }

    public int convoyOf(int convoy, int what) {
        Train t = state.train(convoy);
        require(what, 5);
        return new int[] {t.gap, t.lorries.size(), t.lead, t.onRoad(), t.arrived(), t.done() ? 1 : 0}[what];
    }

    public int truckOf(int convoy, int place, int what) {
        Lorry lorry = lorry(convoy, place);
        require(what, 3);
        Train t = state.train(convoy);
        return new int[] {lorry.kind, lorry.tonnes, lorry.axles, t.lead < 0 ? -1 : t.mile(place)}[what];
    }

    public float load(int convoy, int place) {
        return lorry(convoy, place).load();
    }

    private Lorry lorry(int convoy, int place) {
        List<Lorry> lorries = state.train(convoy).lorries;
        if (place < 0 || place >= lorries.size()) {
            throw new IndexOutOfBoundsException();
        }
        return lorries.get(place);
    }

    private int truckAt(int mile) {
        for (int c = 0; c < state.trains.size(); c++) {
            int place = state.trains.get(c).miles().indexOf(mile);
            if (place >= 0) {
                return 10 * c + place;
            }
        }
        return -1;
    }

    public int at(int mile) {
        requireMile(mile);
        int truck = truckAt(mile);
        if (truck < 0) {
            throw new NoSuchElementException();
        }
        return truck;
    }

    public int rolls(int convoy) {
        state.train(convoy);
        State copy = state.copy();
        for (int count = 0; ; count++) {
            try {
                copy.roll(convoy);
            } catch (Refused e) {
                return count;
            }
        }
    }

    public int rollsAgain(int convoy) {
        return rolls(convoy);
    }

    public int iceIn(int mile, int days) {
        requireMile(mile);
        require(days, 60);
        State copy = state.copy();
        for (int d = 0; d < days; d++) {
            copy.dayGoesBy();
        }
        return Float.floatToIntBits(copy.ice[mile]);
    }

    public int bearsIn(int mile, int tonnes) {
        requireMile(mile);
        require(tonnes - 1, 98);
        State copy = state.copy();
        for (int days = 0; days <= 90; days++) {
            float ice = copy.ice[mile];
            if (ice * ice * 0.04f >= (float) tonnes) {
                return days;
            }
            copy.dayGoesBy();
        }
        throw new NoSuchElementException();
    }

    public int pass(int days) {
        return change(s -> s.pass(days));
    }

    public int append(char c) {
        if (input.length() == 60) {
            throw new IllegalStateException();
        }
        return input.append(c).length();
    }

    public int read() {
        String text = input.toString();
        input.setLength(0);
        errorAt = errorIn(text);
        if (errorAt >= 0) {
            throw new IllegalArgumentException();
        }
        return change(s -> {
            String[] orders = text.split(";");
            for (String order : orders) {
                try {
                    carryOut(s, order);
                } catch (IndexOutOfBoundsException | NoSuchElementException e) {
                    throw new IllegalArgumentException();
                }
            }
            return orders.length;
        });
    }

    private static void carryOut(State s, String order) {
        String rest = order.substring(1);
        switch (order.charAt(0)) {
            case 'd' -> s.drill(Integer.parseInt(rest));
            case 's' -> s.start(Integer.parseInt(rest));
            case 'r' -> s.roll(Integer.parseInt(rest));
            case 't' -> s.set(0, Integer.parseInt(rest));
            case 'p' -> s.pass(Integer.parseInt(rest));
            default -> s.join(rest.charAt(0) - '0', rest.charAt(2) - '0', rest.charAt(4) - '0');
        }
    }

    private static int errorIn(String text) {
        if (TEXT.matcher(text).matches()) {
            return -1;
        }
        for (int end = 1; end <= text.length(); end++) {
            Matcher beginning = TEXT.matcher(text.substring(0, end));
            if (!beginning.matches() && !beginning.hitEnd()) {
                return end - 1;
            }
        }
        return text.length();
    }

    public int errorPosition() {
        return errorAt;
    }

    public int refusal(boolean isDetail) {
        if (latest == null) {
            throw new NoSuchElementException();
        }
        return isDetail ? latest.detail : latest.reason;
    }

    public int account(int what) {
        require(what, 14);
        int cracks = 0;
        int good = 0;
        for (int m = 0; m < 12; m++) {
            cracks += state.cracks[m];
            good += state.good(m) ? 1 : 0;
        }
        int waiting = 0;
        int inRows = 0;
        for (TreeMap<Integer, Lorry> row : state.rows) {
            inRows += row.size();
            waiting += row.values().stream().mapToInt(l -> l.tonnes).sum();
        }
        int started = 0;
        int done = 0;
        int onRoad = 0;
        int arrived = 0;
        for (Train t : state.trains) {
            started += t.lead >= 0 && !t.done() ? 1 : 0;
            done += t.done() ? 1 : 0;
            onRoad += t.onRoad();
            arrived += t.arrived();
            waiting += t.lorries.stream().skip(t.arrived()).mapToInt(l -> l.tonnes).sum();
        }
        return new int[] {state.day, inRows, state.trains.size(), started, done, onRoad, arrived, state.tonnesThere,
            waiting, cracks, good, state.drillsSoFar, state.tonnesSoFar, input.length(), before.size()}[what];
    }

    public boolean isWell() {
        return true;
    }

    public long meanBits() {
        double sum = 0.0;
        for (float ice : state.ice) {
            sum += ice;
        }
        return Double.doubleToLongBits(sum / 12.0);
    }

    public float share() {
        if (state.tonnesSoFar == 0) {
            throw new ArithmeticException();
        }
        return (float) state.tonnesThere / (float) state.tonnesSoFar;
    }

    public int undo() {
        if (before.isEmpty()) {
            throw new IllegalStateException();
        }
        state = before.pop();
        return before.size();
    }

    public int save() {
        saved = state.copy();
        return state.trains.size();
    }

    public int restore() {
        if (saved == null) {
            throw new IllegalStateException();
        }
        state = saved.copy();
        before.clear();
        return state.trains.size();
    }
}
