import java.util.function.Supplier;

/** Runs of calls on the program and on the model; the numbers come from a sequence that is always the same. */
final class ModelTest {
    private static final int RUNS = 400;
    private static final int CALLS = 512;
    private static final String[] ODD_TOKENS = {";", "7", "12345", "belt", "vibration", "gate", "under", "notch", "on",
        "zero", "?", "good", "0", "9999", "confirm", "-", "\t", "window"};

    private long state = 12345;
    private CheckWeigher program;
    private Model model;
    private int calls;
    private int run;

    public static void main(String[] args) {
        ModelTest test = new ModelTest();
        for (int run = 1; run <= RUNS; run++) {
            test.run = run;
            test.oneRun();
        }
        Check.finish("ModelTest");
    }

    /** 0 to below - 1 */
    private int any(int below) {
        state = state * 6364136223846793005L + 1442695040888963407L;
        return (int) ((state >>> 33) % below);
    }

    private int from(int least, int most) {
        return least + any(most - least + 1);
    }

    private boolean chance(int percent) {
        return any(100) < percent;
    }

    private void oneRun() {
        program = new CheckWeigher();
        model = new Model();
        calls = 0;
        if (chance(95)) {
            loadText(text());
        }
        while (calls < CALLS - 30) {
            if (any(150) == 0) {
                loadText(chance(70) ? text() : spoilt(text()));
            }
            call();
        }
    }

    private String text() {
        StringBuilder s = new StringBuilder();
        int speed = chance(60) ? from(5, 30) : chance(50) ? from(1, 4) : from(31, 100);
        int begin = from(1, chance(80) ? 60 : 300);
        int end = begin + (chance(80) ? from(20, 150) : from(1, 600));
        int beltEnd = end + (chance(80) ? from(2, 300) : from(1, 900));
        s.append("belt ").append(speed).append(' ').append(begin).append(' ').append(end).append(' ')
            .append(beltEnd).append(';');
        for (int i = any(5); i > 0; i--) {
            int period = 2 * from(1, chance(50) ? 4 : 20);
            s.append("vibration ").append(from(1, chance(70) ? 20 : 999)).append(' ').append(period).append(' ')
                .append(any(period)).append(';');
        }
        gates(s, end, beltEnd);
        settings(s);
        return s.toString();
    }

    private void gates(StringBuilder s, int end, int beltEnd) {
        String[] kinds = {"under", "over", "unsteady"};
        int turn = any(3);
        int last = end;
        for (int i = any(4); i > 0 && last + 1 < beltEnd; i--) {
            last = from(last + 1, Math.min(beltEnd - 1, last + 80));
            s.append("gate ").append(kinds[(turn + i) % 3]).append(' ').append(last).append(' ')
                .append(chance(60) ? any(4) : any(51)).append(';');
        }
    }

    private void settings(StringBuilder s) {
        int low = from(0, 60);
        String[] all = {"limits " + low + " " + from(low, 90), "window " + from(1, chance(50) ? 10 : 60),
            "notch " + (chance(70) ? "on" : "off"), "steady " + (chance(50) ? any(60) : any(9999)),
            "least " + from(1, chance(80) ? 6 : 60), "drift " + any(100) + " " + from(1, 999),
            "zero " + any(chance(70) ? 5 : 61), "confirm " + from(1, chance(70) ? 8 : 99)};
        int turn = any(8);
        int stride = 2 * any(4) + 1;
        for (int i = 0; i < 8; i++) {
            if (chance(50)) {
                s.append(chance(30) ? "\n" : "").append(all[(turn + i * stride) % 8]).append(chance(10) ? " ;" : ";");
            }
        }
    }

    private String spoilt(String text) {
        int at = any(text.length());
        int kind = any(5);
        if (kind == 0) {
            return text.substring(0, at);
        }
        if (kind == 1) {
            return text.substring(0, at) + text.substring(at + 1);
        }
        if (kind == 2) {
            int cut = text.lastIndexOf(';', at) + 1;
            return text.substring(0, cut) + text.substring(text.indexOf(';') + 1);
        }
        if (kind == 3) {
            return text.substring(0, at) + (char) any(256) + text.substring(at + 1);
        }
        int space = Math.max(0, text.lastIndexOf(' ', at));
        return text.substring(0, space) + " " + ODD_TOKENS[any(ODD_TOKENS.length)] + text.substring(space);
    }

    private void loadText(String whole) {
        String text = whole.length() > 500 ? whole.substring(0, 500) : whole;
        program.truncate(0);
        model.truncate(0);
        for (int i = 0; i < text.length(); i += 20) {
            int[] five = new int[5];
            for (int k = 0; k < 20; k++) {
                int sign = i + k < text.length() ? text.charAt(i + k) : any(256);
                five[k / 4] = five[k / 4] << 8 | sign;
            }
            append(five);
        }
        compare("truncate", () -> (double) program.truncate(text.length()), () -> (double) model.truncate(text.length()));
        load();
    }

    private void append(int[] five) {
        compare("append", () -> (double) program.append(five[0], five[1], five[2], five[3], five[4]),
            () -> (double) model.append(five));
    }

    private void load() {
        compare("load", () -> (double) program.load(), () -> (double) model.load());
        compare("errorCode", () -> (double) program.errorCode(), () -> (double) model.code);
        compare("errorPosition", () -> (double) program.errorPosition(), () -> (double) model.position);
    }

    private void compare(String call, Supplier<Double> got, Supplier<Double> due) {
        calls++;
        String what = "run " + run + " call " + calls + " " + call;
        Class<?> thrown = null;
        double answer = 0;
        try {
            answer = due.get();
        } catch (RuntimeException e) {
            thrown = e.getClass();
        }
        if (thrown != null) {
            Check.refuses(what, thrown.asSubclass(RuntimeException.class), got::get);
        } else {
            Check.sameDouble(what, got.get(), answer);
        }
    }

    private int anItem() {
        int items = model.things.size();
        return chance(60) ? items - 1 - any(4) : from(-1, items);
    }

    private int aGate() {
        return chance(95) ? any(Math.max(1, model.plan.gates.size())) : from(-1, 3);
    }

    private void call() {
        int kind = any(100);
        if (kind < 22) {
            int weight = chance(97) ? from(1, 100) : from(-1, 10001);
            int length = chance(80) ? from(1, 60) : from(0, 2001);
            compare("put", () -> (double) program.put(weight, length), () -> (double) model.put(weight, length));
        } else if (kind < 50) {
            int ticks = chance(90) ? from(1, 8) : chance(80) ? from(0, 40) : from(0, 501);
            compare("step " + ticks, () -> (double) program.step(ticks), () -> (double) model.step(ticks));
        } else if (kind < 58) {
            change();
        } else if (kind < 80) {
            askItem();
        } else {
            askMore();
        }
    }

    private void change() {
        int kind = any(5);
        int gate = aGate();
        boolean to = chance(40);
        int a = chance(95) ? any(60) : from(-1, 10000);
        int b = chance(95) ? a + any(60) : from(-1, 10000);
        int tare = chance(95) ? from(-20, 20) : from(-10000, 10000);
        if (kind == 0) {
            compare("jam", () -> program.jam(gate, to) ? 1.0 : 0.0, () -> model.jam(gate, to) ? 1.0 : 0.0);
        } else if (kind == 1) {
            compare("sensor", () -> program.sensor(gate, to) ? 1.0 : 0.0, () -> model.sensor(gate, to) ? 1.0 : 0.0);
        } else if (kind == 2) {
            compare("setLimits", () -> {
                program.setLimits(a, b);
                return 0.0;
            }, () -> {
                model.setLimits(a, b);
                return 0.0;
            });
        } else if (kind == 3) {
            compare("setTare", () -> (double) program.setTare(tare), () -> (double) model.setTare(tare));
        } else if (chance(10)) {
            int length = from(-1, 60);
            compare("truncate", () -> (double) program.truncate(length), () -> (double) model.truncate(length));
        } else if (chance(5)) {
            load();
        } else {
            append(new int[] {any(1 << 30), 0, 0, 0, 0});
        }
    }

    private void askItem() {
        int item = anItem();
        int what = from(chance(5) ? -1 : 0, chance(5) ? 10 : 9);
        int index = from(-1, 20);
        int window = from(0, chance(50) ? 10 : 61);
        int gate = aGate();
        int kind = any(9);
        if (kind < 3) {
            compare("item " + item + " " + what, () -> (double) program.item(item, what),
                () -> (double) model.item(item, what));
        } else if (kind == 3) {
            compare("measured", () -> (double) program.measured(item), () -> (double) model.measured(item));
        } else if (kind == 4) {
            compare("sampleOf", () -> (double) program.sampleOf(item, index), () -> (double) model.sampleOf(item, index));
        } else if (kind == 5) {
            compare("weightWith", () -> (double) program.weightWith(item, window),
                () -> (double) model.weightWith(item, window));
        } else if (kind == 6) {
            compare("arrival", () -> (double) program.arrival(item, gate), () -> (double) model.arrival(item, gate));
        } else {
            compare("fate " + item, () -> (double) program.fate(item), () -> (double) model.fate(item));
        }
    }

    private void askMore() {
        int kind = any(13);
        int gate = aGate();
        int what = from(-1, 12);
        int window = chance(90) ? from(1, 60) : from(-1, 62);
        int ago = chance(80) ? any(10) : from(-1, 60);
        int length = chance(60) ? from(1, 150) : from(0, 2001);
        int tick = chance(50) ? from(-1, 60) : from(-1, 20001);
        if (kind < 2) {
            compare("report " + what, () -> (double) program.report(what), () -> (double) model.report(what));
        } else if (kind < 4) {
            compare("gate " + what, () -> (double) program.gate(gate, what), () -> (double) model.gate(gate, what));
        } else if (kind == 4) {
            compare("sample", () -> (double) program.sample(ago), () -> (double) model.sample(ago));
        } else if (kind == 5) {
            compare("count", () -> (double) program.count(what % 7), () -> (double) model.count(what % 7));
        } else if (kind == 6) {
            compare("decided", () -> (double) program.decided(what % 5), () -> (double) model.decided(what % 5));
        } else if (kind == 7) {
            compare("meanGood", program::meanGood, model::meanGood);
            compare("meanError", program::meanError, model::meanError);
        } else if (kind == 8) {
            compare("vibration", () -> (double) program.vibration(tick), () -> (double) model.vibration(tick));
        } else if (kind == 9) {
            int part = chance(95) ? any(2) : from(-1, 2);
            compare("residue", () -> (double) program.residue(window, part), () -> (double) model.residue(window, part));
        } else if (kind == 10) {
            int most = chance(10) ? window : Math.min(window, 9);
            compare("bestWindow", () -> (double) program.bestWindow(most), () -> (double) model.bestWindow(most));
        } else if (kind == 11) {
            compare("samplesFor", () -> (double) program.samplesFor(length), () -> (double) model.samplesFor(length));
            compare("spacing", () -> (double) program.spacing(length), () -> (double) model.spacing(length));
        } else {
            compare("openTicks", () -> (double) program.openTicks(gate), () -> (double) model.openTicks(gate));
            compare("opensAt", () -> (double) program.opensAt(gate), () -> (double) model.opensAt(gate));
        }
    }
}
