import java.util.function.Supplier;

/** All that the questions answer about an object, as one text; some 200 calls with three items. */
final class Look {
    private static final int MOST_ITEMS = 3;
    private final StringBuilder answers = new StringBuilder();
    private final CheckWeigher x;

    private Look(CheckWeigher x) {
        this.x = x;
    }

    static String at(CheckWeigher x) {
        Look look = new Look(x);
        look.whole();
        int items = Math.min(MOST_ITEMS, x.report(8));
        for (int item = 0; item < items; item++) {
            look.oneItem(item);
        }
        for (int gate = 0; gate < x.report(3); gate++) {
            look.oneGate(gate, items);
        }
        return look.answers.toString();
    }

    private void note(String call, Supplier<Object> ask) {
        Object answer;
        try {
            answer = ask.get();
        } catch (RuntimeException e) {
            answer = e.getClass().getSimpleName();
        }
        answers.append(call).append(" = ").append(answer).append('\n');
    }

    private void whole() {
        note("errorCode()", x::errorCode);
        note("errorPosition()", x::errorPosition);
        for (int i = 0; i < 12; i++) {
            int what = i;
            note("report(" + i + ")", () -> x.report(what));
        }
        for (int i = 0; i < 6; i++) {
            int ago = i * i;
            int state = i;
            note("sample(" + ago + ")", () -> x.sample(ago));
            note("count(" + i + ")", () -> x.count(state));
        }
        for (int i = 0; i < 4; i++) {
            int kind = i;
            note("decided(" + i + ")", () -> x.decided(kind));
        }
        note("meanGood()", x::meanGood);
        note("meanError()", x::meanError);
        note("vibration(7)", () -> x.vibration(7));
        note("residue(7, 0)", () -> x.residue(7, 0));
        note("residue(7, 1)", () -> x.residue(7, 1));
        note("bestWindow(30)", () -> x.bestWindow(30));
        note("samplesFor(1)", () -> x.samplesFor(1));
        note("spacing(2)", () -> x.spacing(2));
    }

    private void oneItem(int item) {
        for (int i = 0; i < 10; i++) {
            int what = i;
            note("item(" + item + ", " + i + ")", () -> x.item(item, what));
        }
        note("measured(" + item + ")", () -> x.measured(item));
        note("sampleOf(" + item + ", 0)", () -> x.sampleOf(item, 0));
        note("sampleOf(" + item + ", 5)", () -> x.sampleOf(item, 5));
        note("weightWith(" + item + ", 3)", () -> x.weightWith(item, 3));
        note("weightWith(" + item + ", 60)", () -> x.weightWith(item, 60));
        note("fate(" + item + ")", () -> x.fate(item));
    }

    private void oneGate(int gate, int items) {
        for (int i = 0; i < 9; i++) {
            int what = i;
            note("gate(" + gate + ", " + i + ")", () -> x.gate(gate, what));
        }
        note("openTicks(" + gate + ")", () -> x.openTicks(gate));
        note("opensAt(" + gate + ")", () -> x.opensAt(gate));
        for (int item = 0; item < items; item++) {
            int one = item;
            note("arrival(" + item + ", " + gate + ")", () -> x.arrival(one, gate));
        }
    }
}
