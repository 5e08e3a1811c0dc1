import java.util.ArrayList;
import java.util.HashSet;
import java.util.List;
import java.util.NoSuchElementException;
import java.util.Set;
import java.util.TreeSet;

/** The document written a second time, as plainly and as slowly as may be, to compare with. */
final class Model {
    /** What a text sets up. */
    static final class Plan {
        int speed = 10;
        int begin = 100;
        int end = 200;
        int beltEnd = 300;
        List<int[]> vibrations = new ArrayList<>();
        List<int[]> gates = new ArrayList<>();
        int low = 0;
        int high = 9999;
        int window = 20;
        boolean notch = false;
        int steady = 9999;
        int least = 1;
        int driftAmount = 0;
        int driftTicks = 1;
        int zero = 0;
        int confirm = 5;
    }

    static final class Thing {
        int weight;
        int length;
        int front = 0;
        int state = 0;
        List<Integer> samples = new ArrayList<>();
        boolean disturbed = false;
        int kind = -1;
        int target = -1;
        int decidedAt = -1;
        int leftAt = -1;
        Integer measured = null;

        Thing copy() {
            Thing t = new Thing();
            t.weight = weight;
            t.length = length;
            t.front = front;
            t.state = state;
            t.samples = new ArrayList<>(samples);
            t.disturbed = disturbed;
            t.kind = kind;
            t.target = target;
            t.decidedAt = decidedAt;
            t.leftAt = leftAt;
            t.measured = measured;
            return t;
        }
    }

    static final class Wrong extends Exception {
        private static final long serialVersionUID = 1L;
        final int code;
        final int position;

        Wrong(int code, int position) {
            this.code = code;
            this.position = position;
        }
    }

    String text = "";
    int code = 0;
    int position = -1;
    Plan plan = new Plan();
    int time;
    int low;
    int high;
    int tare;
    List<Thing> things;
    List<Integer> cell;
    List<Boolean> empty;
    List<TreeSet<Integer>> open;
    List<int[]> waiting;
    int[][] counts;
    boolean[] jammed;
    boolean[] failing;

    Model() {
        begin();
    }

    private void begin() {
        time = 0;
        low = plan.low;
        high = plan.high;
        tare = 0;
        things = new ArrayList<>();
        cell = new ArrayList<>();
        empty = new ArrayList<>();
        open = new ArrayList<>();
        for (int i = 0; i < plan.gates.size(); i++) {
            open.add(new TreeSet<>());
        }
        waiting = new ArrayList<>();
        counts = new int[3][3];
        jammed = new boolean[3];
        failing = new boolean[3];
    }

    int append(int... words) {
        if (text.length() > 480) {
            throw new IllegalStateException();
        }
        StringBuilder s = new StringBuilder(text);
        for (int word : words) {
            for (int i = 3; i >= 0; i--) {
                s.append((char) (word >> 8 * i & 255));
            }
        }
        text = s.toString();
        return text.length();
    }

    int truncate(int length) {
        if (length < 0 || length > text.length()) {
            throw new IndexOutOfBoundsException();
        }
        text = text.substring(0, length);
        return length;
    }

    int load() {
        String whole = text;
        text = "";
        try {
            plan = new Parse(whole).plan();
        } catch (Wrong e) {
            code = e.code;
            position = e.position;
            throw new IllegalArgumentException();
        }
        code = 0;
        position = -1;
        begin();
        return plan.gates.size();
    }

    /** Cuts the text into tokens up to the first wrong one, then walks along them. */
    private static final class Parse {
        private final List<String> tokens = new ArrayList<>();
        private final List<Integer> places = new ArrayList<>();
        private int at = 0;

        Parse(String text) {
            int i = 0;
            while (i < text.length()) {
                String rest = text.substring(i);
                String token = rest.replaceFirst("(?s)^([a-z]+|[0-9]+|[ \n]+|.).*$", "$1");
                if (token.isBlank() && token.matches("[ \n]+")) {
                    i += token.length();
                    continue;
                }
                tokens.add(token);
                places.add(i);
                i += token.length();
            }
            tokens.add("");
            places.add(text.length());
        }

        private Wrong wrong(int code) {
            return new Wrong(code, places.get(at));
        }

        private boolean is(String token) {
            return tokens.get(at).equals(token);
        }

        private void take(String token) throws Wrong {
            if (!is(token)) {
                throw wrong(1);
            }
            at++;
        }

        private int number(int least, int most, int multiple) throws Wrong {
            if (!tokens.get(at).matches("[0-9]{1,4}")) {
                throw wrong(1);
            }
            int n = Integer.parseInt(tokens.get(at));
            if (n < least || n > most || n % multiple != 0) {
                throw wrong(2);
            }
            at++;
            return n;
        }

        Plan plan() throws Wrong {
            Plan p = new Plan();
            take("belt");
            p.speed = number(1, 100, 1);
            p.begin = number(1, 2000, 1);
            p.end = number(p.begin + 1, 4000, 1);
            p.beltEnd = number(p.end + 1, 9000, 1);
            take(";");
            while (is("vibration")) {
                if (p.vibrations.size() == 4) {
                    throw wrong(4);
                }
                at++;
                int[] v = {number(1, 999, 1), number(2, 40, 2), 0};
                v[2] = number(0, v[1] - 1, 1);
                take(";");
                p.vibrations.add(v);
            }
            int last = p.end;
            Set<Integer> kinds = new HashSet<>();
            while (is("gate")) {
                at++;
                int kind = is("under") ? 0 : is("over") ? 2 : is("unsteady") ? 3 : -1;
                if (kind < 0) {
                    throw wrong(1);
                }
                if (!kinds.add(kind)) {
                    throw wrong(3);
                }
                at++;
                last = number(last + 1, p.beltEnd - 1, 1);
                p.gates.add(new int[] {kind, last, number(0, 50, 1)});
                take(";");
            }
            Set<String> words = new HashSet<>();
            while (!is("")) {
                setting(p, words);
                take(";");
            }
            return p;
        }

        private void setting(Plan p, Set<String> words) throws Wrong {
            String word = tokens.get(at);
            if (!List.of("limits", "window", "notch", "steady", "least", "drift", "zero", "confirm").contains(word)) {
                throw wrong(1);
            }
            if (!words.add(word)) {
                throw wrong(3);
            }
            at++;
            if (word.equals("limits")) {
                p.low = number(0, 9999, 1);
                p.high = number(p.low, 9999, 1);
            } else if (word.equals("window")) {
                p.window = number(1, 60, 1);
            } else if (word.equals("notch")) {
                p.notch = is("on");
                if (!p.notch) {
                    take("off");
                } else {
                    at++;
                }
            } else if (word.equals("steady")) {
                p.steady = number(0, 9999, 1);
            } else if (word.equals("least")) {
                p.least = number(1, 60, 1);
            } else if (word.equals("drift")) {
                p.driftAmount = number(0, 99, 1);
                p.driftTicks = number(1, 999, 1);
            } else if (word.equals("zero")) {
                p.zero = number(0, 60, 1);
            } else {
                p.confirm = number(1, 99, 1);
            }
        }
    }

    int windowInUse() {
        int window = plan.window;
        if (plan.notch) {
            for (int n = 1; n <= plan.window; n++) {
                boolean fits = true;
                for (int[] v : plan.vibrations) {
                    fits &= n % v[1] == 0;
                }
                if (fits) {
                    window = n;
                }
            }
        }
        return window;
    }

    int report(int what) {
        if (what < 0 || what > 11) {
            throw new IllegalArgumentException();
        }
        int alarms = counts[0][2] + counts[1][2] + counts[2][2];
        int[] all = {time, plan.speed, plan.vibrations.size(), plan.gates.size(), low, high, windowInUse(), tare,
            things.size(), riding().size(), waiting.size(), alarms};
        return all[what];
    }

    private List<Thing> riding() {
        List<Thing> list = new ArrayList<>();
        for (Thing t : things) {
            if (t.state < 2) {
                list.add(t);
            }
        }
        return list;
    }

    private void needGate(int gate) {
        if (gate < 0 || gate >= plan.gates.size()) {
            throw new IndexOutOfBoundsException();
        }
    }

    private Thing needThing(int item) {
        if (item < 0 || item >= things.size()) {
            throw new IndexOutOfBoundsException();
        }
        return things.get(item);
    }

    private static void need(boolean fits) {
        if (!fits) {
            throw new IllegalArgumentException();
        }
    }

    int gate(int gate, int what) {
        needGate(gate);
        need(what >= 0 && what <= 8);
        if (what < 3) {
            return plan.gates.get(gate)[what];
        }
        if (what < 6) {
            return counts[gate][what - 3];
        }
        boolean is = what == 6 ? isOpen(gate) : what == 7 ? jammed[gate] : failing[gate];
        return is ? 1 : 0;
    }

    private boolean isOpen(int gate) {
        return open.get(gate).contains(time) && !jammed[gate];
    }

    int put(int weight, int length) {
        need(weight >= 1 && weight <= 9999 && length >= 1 && length <= 2000);
        if (things.size() == 60) {
            throw new IllegalStateException();
        }
        if (!things.isEmpty()) {
            Thing last = things.get(things.size() - 1);
            if (last.state < 2 && last.front - last.length < 0) {
                throw new IllegalStateException();
            }
        }
        Thing t = new Thing();
        t.weight = weight;
        t.length = length;
        things.add(t);
        return things.size() - 1;
    }

    int step(int ticks) {
        need(ticks >= 1 && ticks <= 500);
        if (time + ticks > 20000) {
            throw new IllegalStateException();
        }
        int sum = 0;
        for (int i = 0; i < ticks; i++) {
            sum += tick();
        }
        return sum;
    }

    private boolean inPart(Thing t) {
        return t.front > plan.begin && t.front - t.length < plan.end;
    }

    private int tick() {
        time++;
        int sum = plan.driftAmount * time / plan.driftTicks + vibrationsAt(time);
        List<Thing> onTable = new ArrayList<>();
        for (Thing t : riding()) {
            t.front += plan.speed;
            int millimetres = 0;
            for (int mm = plan.begin; mm < plan.end; mm++) {
                millimetres += mm >= t.front - t.length && mm < t.front ? 1 : 0;
            }
            sum += t.weight * millimetres / t.length;
            if (inPart(t)) {
                onTable.add(t);
            }
        }
        cell.add(sum);
        empty.add(onTable.isEmpty());
        for (Thing t : riding()) {
            if (t.front - t.length >= plan.begin && t.front <= plan.end) {
                boolean alone = true;
                for (Thing other : onTable) {
                    alone &= other == t;
                }
                if (alone) {
                    t.samples.add(sum);
                    if (t.samples.size() > 60) {
                        t.samples.remove(0);
                    }
                } else {
                    t.disturbed = true;
                }
            }
        }
        int decisions = 0;
        for (Thing t : riding()) {
            if (t.front > plan.end && t.state == 0) {
                decide(t);
                decisions++;
            }
        }
        meetGates();
        for (Thing t : riding()) {
            if (t.front >= plan.beltEnd) {
                t.state = t.target == -1 ? 2 : 5;
                t.leftAt = time;
            }
        }
        zeroTare();
        for (int[] w : new ArrayList<>(waiting)) {
            if (time == w[1] + plan.confirm) {
                waiting.remove(w);
                counts[w[0]][failing[w[0]] ? 2 : 1]++;
            }
        }
        return decisions;
    }

    private static int mean(List<Integer> samples, int window) {
        int from = Math.max(0, samples.size() - window);
        long sum = 0;
        for (int s : samples.subList(from, samples.size())) {
            sum += s;
        }
        return (int) (sum / (samples.size() - from));
    }

    private void decide(Thing t) {
        int window = windowInUse();
        t.state = 1;
        t.decidedAt = time;
        t.kind = 3;
        if (!t.samples.isEmpty()) {
            t.measured = mean(t.samples, window) - tare;
            List<Integer> sorted = new ArrayList<>(
                t.samples.subList(Math.max(0, t.samples.size() - window), t.samples.size()));
            sorted.sort(null);
            int spread = sorted.get(sorted.size() - 1) - sorted.get(0);
            if (!t.disturbed && t.samples.size() >= plan.least && spread <= plan.steady) {
                t.kind = t.measured < low ? 0 : t.measured > high ? 2 : 1;
            }
        }
        for (int g = 0; g < plan.gates.size(); g++) {
            if (plan.gates.get(g)[0] == t.kind) {
                t.target = g;
                int a = 0;
                while (t.front + a * plan.speed < plan.gates.get(g)[1]) {
                    a++;
                }
                int n = 0;
                while (n * plan.speed < t.length) {
                    n++;
                }
                for (int k = Math.max(time + a, time + plan.gates.get(g)[2]); k < time + a + n; k++) {
                    open.get(g).add(k);
                }
            }
        }
    }

    private void meetGates() {
        for (int g = 0; g < plan.gates.size(); g++) {
            int p = plan.gates.get(g)[1];
            for (Thing t : riding()) {
                if (t.front >= p && t.front - plan.speed < p && isOpen(g)) {
                    t.state = t.target == g ? 3 : 4;
                    t.leftAt = time;
                    waiting.add(new int[] {g, time});
                    counts[g][0]++;
                }
            }
        }
    }

    private void zeroTare() {
        if (plan.zero == 0 || time < plan.zero) {
            return;
        }
        List<Integer> sums = new ArrayList<>();
        for (int k = time - plan.zero; k < time; k++) {
            if (!empty.get(k)) {
                return;
            }
            sums.add(cell.get(k));
        }
        tare = mean(sums, plan.zero);
    }

    boolean jam(int gate, boolean to) {
        needGate(gate);
        boolean changes = jammed[gate] != to;
        jammed[gate] = to;
        return changes;
    }

    boolean sensor(int gate, boolean to) {
        needGate(gate);
        boolean changes = failing[gate] != to;
        failing[gate] = to;
        return changes;
    }

    void setLimits(int l, int h) {
        need(l >= 0 && l <= 9999 && h >= l && h <= 9999);
        low = l;
        high = h;
    }

    int setTare(int to) {
        need(to >= -9999 && to <= 9999);
        int old = tare;
        tare = to;
        return old;
    }

    int item(int item, int what) {
        Thing t = needThing(item);
        need(what >= 0 && what <= 9);
        int[] all = {t.weight, t.length, t.front, t.state, t.samples.size(), t.disturbed ? 1 : 0, t.kind, t.target,
            t.decidedAt, t.leftAt};
        return all[what];
    }

    int measured(int item) {
        Thing t = needThing(item);
        if (t.measured == null) {
            throw new NoSuchElementException();
        }
        return t.measured;
    }

    int sampleOf(int item, int index) {
        Thing t = needThing(item);
        if (index < 0 || index >= t.samples.size()) {
            throw new IndexOutOfBoundsException();
        }
        return t.samples.get(index);
    }

    int sample(int ago) {
        need(ago >= 0 && ago <= 59);
        if (cell.size() <= ago) {
            throw new NoSuchElementException();
        }
        return cell.get(cell.size() - 1 - ago);
    }

    int count(int state) {
        need(state >= 0 && state <= 5);
        return (int) things.stream().filter(t -> t.state == state).count();
    }

    int decided(int kind) {
        need(kind >= 0 && kind <= 3);
        return (int) things.stream().filter(t -> t.kind == kind).count();
    }

    double meanGood() {
        return things.stream().filter(t -> t.kind == 1).mapToDouble(t -> t.measured).average().orElseThrow();
    }

    double meanError() {
        return things.stream().filter(t -> t.measured != null).mapToDouble(t -> Math.abs(t.measured - t.weight))
            .average().orElseThrow();
    }

    private int vibrationsAt(int tick) {
        int sum = 0;
        for (int[] v : plan.vibrations) {
            sum += (tick + v[2]) % v[1] < v[1] / 2 ? v[0] : -v[0];
        }
        return sum;
    }

    int vibration(int tick) {
        need(tick >= 0 && tick <= 20000);
        return vibrationsAt(tick);
    }

    private int worst(int window) {
        int greatest = 0;
        for (int first = 0; first < 1680; first++) {
            int sum = 0;
            for (int k = 0; k < window; k++) {
                sum += vibrationsAt(first + k);
            }
            greatest = Math.max(greatest, Math.abs(sum));
        }
        return greatest;
    }

    int residue(int window, int part) {
        need(window >= 1 && window <= 60 && part >= 0 && part <= 1);
        int top = worst(window);
        int d = window;
        while (top % d != 0 || window % d != 0) {
            d--;
        }
        return part == 0 ? top / d : window / d;
    }

    int bestWindow(int most) {
        need(most >= 1 && most <= 60);
        int best = 1;
        double least = Double.MAX_VALUE;
        for (int window = 1; window <= most; window++) {
            // equal fractions of such small numbers are equal doubles
            double here = (double) worst(window) / window;
            if (here <= least) {
                best = window;
                least = here;
            }
        }
        return best;
    }

    int weightWith(int item, int window) {
        Thing t = needThing(item);
        need(window >= 1 && window <= 60);
        if (t.samples.isEmpty()) {
            throw new NoSuchElementException();
        }
        return mean(t.samples, window) - tare;
    }

    int samplesFor(int length) {
        need(length >= 1 && length <= 2000);
        int ticks = 0;
        for (int front = 0; front <= plan.end; front += plan.speed) {
            ticks += front - length >= plan.begin ? 1 : 0;
        }
        return ticks;
    }

    int arrival(int item, int gate) {
        Thing t = needThing(item);
        needGate(gate);
        if (t.state > 1 || t.front >= plan.gates.get(gate)[1]) {
            throw new NoSuchElementException();
        }
        int ticks = 0;
        while (t.front + ticks * plan.speed < plan.gates.get(gate)[1]) {
            ticks++;
        }
        return ticks;
    }

    int openTicks(int gate) {
        needGate(gate);
        return open.get(gate).tailSet(time + 1).size();
    }

    int opensAt(int gate) {
        needGate(gate);
        return open.get(gate).tailSet(time + 1).first();
    }

    int fate(int item) {
        needThing(item);
        Model m = copy();
        while (m.things.get(item).state < 2) {
            m.tick();
        }
        return m.things.get(item).state;
    }

    private Model copy() {
        Model m = new Model();
        m.plan = plan;
        m.begin();
        m.time = time;
        m.low = low;
        m.high = high;
        m.tare = tare;
        for (Thing t : things) {
            m.things.add(t.copy());
        }
        m.cell = new ArrayList<>(cell);
        m.empty = new ArrayList<>(empty);
        for (int g = 0; g < open.size(); g++) {
            m.open.get(g).addAll(open.get(g));
        }
        m.jammed = jammed.clone();
        return m;
    }

    int spacing(int length) {
        need(length >= 1 && length <= 2000);
        for (int d = plan.speed;; d += plan.speed) {
            boolean meet = d < length;
            for (int front = d; front - length < plan.end; front += plan.speed) {
                meet |= front - d > plan.begin;
            }
            if (!meet) {
                return d;
            }
        }
    }
}
