/**
 * A call that throws an exception changes nothing: of two objects that had the same calls one has
 * refused ones too, and then both answer the same, at once and later; and of several exceptions that
 * apply the first one of the throws clause comes.
 */
final class RefusedCallsTest {
    private static final int LEAST = Integer.MIN_VALUE;
    private static final int GREATEST = Integer.MAX_VALUE;
    private static final String TEXT = "belt 1 10 20 90;vibration 5 4 1;gate over 30 0;gate unsteady 40 3;"
        + "limits 25 35;window 5;notch on;steady 40;least 2;drift 1 9;zero 3;confirm 7;";

    public static void main(String[] args) {
        for (int ticks : new int[] {0, 7, 16, 21, 32, 45, 80, 120}) {
            twins("running for " + ticks, running(ticks), running(ticks));
        }
        twins("new", new CheckWeigher(), new CheckWeigher());
        twins("at the last time", atTheLastTime(), atTheLastTime());
        twins("with sixty items", withSixtyItems(), withSixtyItems());
        refusedPutOfThe61st();
        refusedPutBehindTheRear();
        refusedStep();
        refusedLoad();
        refusedLoadOfEveryCode();
        refusedAppend();
        orderOfExceptions();
        Check.finish("RefusedCallsTest");
    }

    /** A disturbed pair and one behind it, the first to be missed, with a tare and a text begun. */
    private static CheckWeigher running(int ticks) {
        CheckWeigher x = Check.loaded(TEXT);
        x.step(4);
        x.put(50, 3);
        x.step(5);
        x.put(30, 3);
        x.step(16);
        x.put(40, 2);
        x.jam(1, true);
        x.sensor(0, true);
        x.setTare(2);
        Check.write(x, "belt 7 10 20 90;zero 1");
        if (ticks > 0) {
            x.step(ticks);
        }
        return x;
    }

    private static CheckWeigher atTheLastTime() {
        CheckWeigher x = Check.loaded(TEXT);
        Check.stepTo(x, 19970);
        x.put(50, 3);
        x.step(30);
        x.put(30, 3);
        return x;
    }

    private static CheckWeigher withSixtyItems() {
        CheckWeigher x = Check.loaded(TEXT);
        for (int i = 0; i < 60; i++) {
            x.put(20 + i % 20, 1);
            x.step(1);
        }
        return x;
    }

    private static void twins(String name, CheckWeigher x, CheckWeigher y) {
        refusedArguments(name, x);
        refusedItems(name, x);
        refusedGates(name, x);
        compare("at once, " + name, x, y);
        int left = Math.min(20000 - y.report(0), 11);
        if (left > 0) {
            Check.same("later decisions, " + name, x.step(left), y.step(left));
        }
        // what stands in the buffer shows in the load
        compareLoads("the text, " + name, x, y);
        Check.same("the text's error, " + name, x.errorCode(), y.errorCode());
        Check.same("the text's length, " + name, x.errorPosition(), y.errorPosition());
        for (int what = 0; what < 12; what++) {
            Check.same("later report(" + what + "), " + name, x.report(what), y.report(what));
        }
    }

    private static void compare(String name, CheckWeigher x, CheckWeigher y) {
        String got = Look.at(x);
        String due = Look.at(y);
        Check.same("P1 some answers, " + name, due.length() > 300, true);
        Check.same("a refused call changed nothing, " + name, got.equals(due), true);
        if (!got.equals(due)) {
            System.out.println(got + "\n---- due is\n" + due);
        }
    }

    private static void compareLoads(String name, CheckWeigher x, CheckWeigher y) {
        Check.same(name, loads(x), loads(y));
    }

    private static boolean loads(CheckWeigher x) {
        try {
            x.load();
            return true;
        } catch (IllegalArgumentException e) {
            return false;
        }
    }

    private static void refusedArguments(String name, CheckWeigher x) {
        Check.refusesIndex("P3 " + name, () -> x.truncate(-1));
        Check.refusesIndex("P3 " + name, () -> x.truncate(501));
        Check.refusesArgument("P7 " + name, () -> x.report(12));
        Check.refusesArgument("P9 weight " + name, () -> x.put(0, 3));
        Check.refusesArgument("P9 weight " + name, () -> x.put(10000, 3));
        Check.refusesArgument("P9 length " + name, () -> x.put(3, 0));
        Check.refusesArgument("P9 length " + name, () -> x.put(3, 2001));
        Check.refusesArgument("P10 " + name, () -> x.step(0));
        Check.refusesArgument("P10 " + name, () -> x.step(501));
        Check.refusesArgument("P13 " + name, () -> x.setLimits(-1, 5));
        Check.refusesArgument("P13 " + name, () -> x.setLimits(5, 4));
        Check.refusesArgument("P13 " + name, () -> x.setLimits(5, 10000));
        Check.refusesArgument("P14 " + name, () -> x.setTare(-10000));
        Check.refusesArgument("P14 " + name, () -> x.setTare(10000));
        Check.refusesArgument("P18 " + name, () -> x.sample(-1));
        Check.refusesArgument("P18 " + name, () -> x.sample(60));
        Check.refusesArgument("P19 " + name, () -> x.count(6));
        Check.refusesArgument("P20 " + name, () -> x.decided(4));
        Check.refusesArgument("P23 " + name, () -> x.vibration(20001));
        Check.refusesArgument("P24 " + name, () -> x.residue(61, 0));
        Check.refusesArgument("P24 " + name, () -> x.residue(60, 2));
        Check.refusesArgument("P25 " + name, () -> x.bestWindow(61));
        Check.refusesArgument("P27 " + name, () -> x.samplesFor(2001));
        Check.refusesArgument("P32 " + name, () -> x.spacing(0));
    }

    private static void refusedItems(String name, CheckWeigher x) {
        for (int item : new int[] {-1, 60, LEAST, GREATEST}) {
            Check.refusesIndex("P15 " + name, () -> x.item(item, 0));
            Check.refusesIndex("P16 " + name, () -> x.measured(item));
            Check.refusesIndex("P17 " + name, () -> x.sampleOf(item, 0));
            Check.refusesIndex("P26 " + name, () -> x.weightWith(item, 1));
            Check.refusesIndex("P28 " + name, () -> x.arrival(item, 0));
            Check.refusesIndex("P31 " + name, () -> x.fate(item));
        }
    }

    private static void refusedGates(String name, CheckWeigher x) {
        for (int gate : new int[] {-1, 3, LEAST, GREATEST}) {
            Check.refusesIndex("P8 " + name, () -> x.gate(gate, 0));
            Check.refusesIndex("P11 " + name, () -> x.jam(gate, true));
            Check.refusesIndex("P11 " + name, () -> x.jam(gate, false));
            Check.refusesIndex("P12 " + name, () -> x.sensor(gate, true));
            Check.refusesIndex("P12 " + name, () -> x.sensor(gate, false));
            Check.refusesIndex("P28 " + name, () -> x.arrival(0, gate));
            Check.refusesIndex("P29 " + name, () -> x.openTicks(gate));
            Check.refusesIndex("P30 " + name, () -> x.opensAt(gate));
        }
    }

    private static void refusedPutOfThe61st() {
        CheckWeigher x = withSixtyItems();
        CheckWeigher y = withSixtyItems();
        Check.refusesState("P9 the 61st", () -> x.put(99, 99));
        compare("the 61st", x, y);
        x.step(50);
        y.step(50);
        Check.refusesState("P9 the 61st later", () -> x.put(99, 99));
        for (int state = 0; state <= 5; state++) {
            Check.same("P19 as without the 61st", x.count(state), y.count(state));
        }
    }

    private static void refusedPutBehindTheRear() {
        CheckWeigher x = running(0);
        CheckWeigher y = running(0);
        Check.refusesState("P9 behind the rear", () -> x.put(99, 99));
        compare("behind the rear", x, y);
        x.step(2);
        y.step(2);
        Check.same("P9 the next number", x.put(31, 1), 3);
        Check.same("P9 the next number", y.put(31, 1), 3);
        x.step(100);
        y.step(100);
        Check.same("P31 as without it", x.item(3, 3), y.item(3, 3));
    }

    private static void refusedStep() {
        CheckWeigher x = atTheLastTime();
        CheckWeigher y = atTheLastTime();
        Check.refusesState("P10 one tick", () -> x.step(1));
        Check.refusesState("P10 500 ticks", () -> x.step(500));
        compare("the last time", x, y);
        CheckWeigher x1 = Check.loaded(TEXT);
        CheckWeigher y1 = Check.loaded(TEXT);
        Check.stepTo(x1, 19980);
        Check.stepTo(y1, 19980);
        x1.put(30, 3);
        y1.put(30, 3);
        Check.refusesState("P10 no tick of 21", () -> x1.step(21));
        compare("twenty ticks before the last time", x1, y1);
        Check.same("P10 twenty", x1.step(20), 0);
        Check.same("P10 time", x1.report(0), 20000);
    }

    private static void refusedLoad() {
        CheckWeigher x = running(32);
        CheckWeigher y = running(32);
        Check.refusesArgument("P4 the end is missing", x::load);
        Check.same("P5 the end", x.errorCode(), 1);
        Check.same("P6 the end", x.errorPosition(), 22);
        Check.refusesArgument("P4 the end is missing", y::load);
        Check.write(x, "belt 99 1 2 3;vibration 900 40 39;gate unsteady 3 50;");
        Check.refusesArgument("P4 the gate", x::load);
        Check.same("P5 the gate", x.errorCode(), 2);
        Check.same("P6 the gate", x.errorPosition(), 48);
        String[] got = Look.at(x).split("\n", 3);
        String[] due = Look.at(y).split("\n", 3);
        Check.same("P4 all but the error stays", got[2].equals(due[2]), true);
        x.step(50);
        y.step(50);
        for (int what = 0; what < 12; what++) {
            Check.same("P4 it goes on the same", x.report(what), y.report(what));
        }
    }

    /** Whatever the text had before its error, the setup of before stays. */
    private static void refusedLoadOfEveryCode() {
        String all = "belt 50 1 2 30;vibration 900 40 39;vibration 900 40 39;vibration 900 40 39;vibration 900 40 39;"
            + "gate under 10 50;gate over 20 50;gate unsteady 29 50;";
        String settings = "limits 1 2;window 3;notch off;steady 4;least 5;drift 6 7;zero 8;confirm 9;";
        String[] ends = {"?", "window 61;", settings + "zero 1;", settings + "?", settings + "gate", settings + "zero"};
        int[] codes = {1, 2, 3, 1, 1, 3};
        for (int i = 0; i < ends.length; i++) {
            CheckWeigher x = running(21);
            CheckWeigher y = running(21);
            x.truncate(0);
            y.truncate(0);
            Check.write(x, all + ends[i]);
            Check.refusesArgument("P4 " + ends[i], x::load);
            Check.same("P5 " + ends[i], x.errorCode(), codes[i]);
            Check.refusesArgument("P4 the empty text", x::load);
            Check.refusesArgument("P4 the empty text", y::load);
            compare("load of " + ends[i], x, y);
        }
        String five = "belt 50 1 2 30;" + "vibration 900 40 39;".repeat(5);
        CheckWeigher x = running(21);
        CheckWeigher y = running(21);
        x.truncate(0);
        y.truncate(0);
        Check.write(x, five);
        Check.refusesArgument("P4 five vibrations", x::load);
        Check.same("P5 five vibrations", x.errorCode(), 4);
        Check.refusesArgument("P4 the empty text", x::load);
        Check.refusesArgument("P4 the empty text", y::load);
        compare("load of five vibrations", x, y);
    }

    private static void refusedAppend() {
        CheckWeigher x = running(21);
        CheckWeigher y = running(21);
        x.truncate(0);
        y.truncate(0);
        String text = " ".repeat(481) + "belt 7 1 2 3;";
        Check.write(x, text);
        Check.write(y, text);
        Check.refusesState("P2 514", () -> x.append(-1, -1, -1, -1, -1));
        compare("append", x, y);
        Check.same("P4 the text stands", x.load(), 0);
        Check.same("P4 the text stands", x.report(1), 7);
    }

    private static void orderOfExceptions() {
        CheckWeigher x = withSixtyItems();
        Check.refusesArgument("P9 argument before state", () -> x.put(0, 1));
        Check.refusesArgument("P9 argument before state", () -> x.put(1, 0));
        Check.refusesIndex("P8 index before argument", () -> x.gate(2, 9));
        Check.refusesIndex("P15 index before argument", () -> x.item(60, 10));
        Check.refusesIndex("P26 index before argument", () -> x.weightWith(60, 61));
        CheckWeigher y = atTheLastTime();
        Check.refusesArgument("P10 argument before state", () -> y.step(501));
        Check.refusesArgument("P10 argument before state", () -> y.step(0));
        Check.refusesIndex("P16 index before element", () -> y.measured(2));
        Check.refusesElement("P16 element", () -> y.measured(1));
        Check.refusesArgument("P26 argument before element", () -> y.weightWith(1, 0));
        Check.refusesElement("P26 element", () -> y.weightWith(1, 1));
        Check.refusesIndex("P28 item before element", () -> y.arrival(2, 0));
        Check.refusesIndex("P28 gate before element", () -> y.arrival(0, 2));
        Check.refusesElement("P28 element", () -> y.arrival(0, 0));
        Check.refusesIndex("P30 index before element", () -> y.opensAt(2));
        Check.refusesElement("P30 element", () -> y.opensAt(1));
        CheckWeigher z = new CheckWeigher();
        Check.refusesArgument("P18 argument before element", () -> z.sample(60));
        Check.refusesArgument("P18 argument before element", () -> z.sample(-1));
        Check.refusesElement("P18 element", () -> z.sample(59));
    }
}
