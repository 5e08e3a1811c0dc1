/** Promises 28 to 32: arrival, openTicks, opensAt, fate, spacing. */
final class TimingTest {
    private static final String BELT = "belt 10 100 200 400;";

    public static void main(String[] args) {
        arrival();
        openTicks();
        opensAt();
        timesOfSeveralItems();
        fate();
        fateFromWhatWas();
        fateChangesNothing();
        fateBeyondTheLastTime();
        spacing();
        spacingKeepsApart();
        Check.finish("TimingTest");
    }

    private static void arrival() {
        CheckWeigher x = Check.loaded(BELT + "gate over 251 0;gate under 290 0;limits 50 60;");
        x.put(55, 10);
        Check.same("P28 from the beginning", x.arrival(0, 0), 26);
        Check.same("P28 from the beginning", x.arrival(0, 1), 29);
        x.step(24);
        Check.same("P28 two", x.arrival(0, 0), 2);
        x.step(1);
        Check.same("P28 one", x.arrival(0, 0), 1);
        Check.same("P28 the other", x.arrival(0, 1), 4);
        x.step(1);
        Check.refusesElement("P28 passed", () -> x.arrival(0, 0));
        x.step(2);
        Check.same("P28 one", x.arrival(0, 1), 1);
        x.step(1);
        Check.refusesElement("P28 exactly there", () -> x.arrival(0, 1));
        Check.refusesIndex("P28 item 1", () -> x.arrival(1, 0));
        Check.refusesIndex("P28 item -1", () -> x.arrival(-1, 0));
        Check.refusesIndex("P28 gate 2", () -> x.arrival(0, 2));
        Check.refusesIndex("P28 gate -1", () -> x.arrival(0, -1));
        x.step(30);
        Check.refusesElement("P28 off the belt", () -> x.arrival(0, 1));
        x.put(70, 10);
        x.step(26);
        Check.same("P28 diverted", x.item(1, 3), 3);
        Check.refusesElement("P28 diverted before", () -> x.arrival(1, 1));
    }

    private static void openTicks() {
        CheckWeigher x = Check.loaded(BELT + "gate over 250 0;gate under 300 0;limits 50 60;");
        Check.same("P29 none", x.openTicks(0), 0);
        x.put(70, 35);
        x.step(20);
        Check.same("P29 before the decision", x.openTicks(0), 0);
        x.step(1);
        Check.same("P29 after it", x.openTicks(0), 4);
        Check.same("P29 the other gate", x.openTicks(1), 0);
        x.jam(0, true);
        Check.same("P29 commanded though jammed", x.openTicks(0), 4);
        x.step(3);
        Check.same("P29 before", x.openTicks(0), 4);
        x.step(1);
        Check.same("P29 first tick is over", x.openTicks(0), 3);
        x.step(2);
        Check.same("P29 one", x.openTicks(0), 1);
        x.step(1);
        Check.same("P29 the present one does not count", x.openTicks(0), 0);
        Check.refusesIndex("P29 gate 2", () -> x.openTicks(2));
        Check.refusesIndex("P29 gate -1", () -> x.openTicks(-1));
    }

    private static void opensAt() {
        CheckWeigher x = Check.loaded(BELT + "gate over 250 5;gate under 300 0;limits 50 60;");
        Check.refusesElement("P30 none", () -> x.opensAt(0));
        x.put(70, 35);
        x.step(21);
        Check.same("P30 with the reaction", x.opensAt(0), 26);
        Check.refusesElement("P30 the other gate", () -> x.opensAt(1));
        x.jam(0, true);
        x.step(4);
        Check.same("P30 jammed", x.opensAt(0), 26);
        x.step(1);
        Check.same("P30 open now and next", x.opensAt(0), 27);
        x.step(1);
        Check.same("P30 the last one", x.opensAt(0), 28);
        x.step(1);
        Check.refusesElement("P30 over", () -> x.opensAt(0));
        Check.refusesIndex("P30 gate 2", () -> x.opensAt(2));
        Check.refusesIndex("P30 gate -1", () -> x.opensAt(-1));
    }

    private static void timesOfSeveralItems() {
        CheckWeigher x = Check.loaded("belt 10 100 200 900;gate over 700 0;limits 50 60;");
        x.put(70, 20);
        x.step(14);
        x.put(70, 30);
        x.step(14);
        x.put(70, 10);
        x.step(21);
        // 70 and 71; 84 to 86; 98
        Check.same("P29 three items", x.openTicks(0), 6);
        Check.same("P30 the first", x.opensAt(0), 70);
        x.step(22);
        Check.same("P29 two items", x.openTicks(0), 4);
        Check.same("P30 the second", x.opensAt(0), 84);
        x.step(26);
        Check.same("P29 one item", x.openTicks(0), 1);
        Check.same("P30 the third", x.opensAt(0), 98);
        overlapping();
    }

    /** A long item that is diverted keeps the gate for those behind it. */
    private static void overlapping() {
        CheckWeigher x = Check.loaded(BELT + "gate unsteady 250 0;");
        x.put(70, 300);
        x.step(25);
        x.put(70, 150);
        x.step(21);
        // 25 to 54 for the first; 50 to 64 for the second
        Check.same("P29 common ticks count once", x.openTicks(0), 64 - 46);
        Check.same("P30 next", x.opensAt(0), 47);
        CheckWeigher y = Check.loaded(BELT + "gate unsteady 250 0;");
        y.put(70, 2000);
        y.step(25);
        y.put(70, 150);
        y.step(21);
        Check.same("P29 the second within the first", y.openTicks(0), 224 - 46);
    }

    private static void fate() {
        CheckWeigher x = Check.loaded(BELT + "gate over 250 0;gate under 300 5;limits 50 60;");
        Check.refusesIndex("P31 no item", () -> x.fate(0));
        x.put(70, 10);
        Check.same("P31 over", x.fate(0), 3);
        x.jam(0, true);
        Check.same("P31 over, jammed", x.fate(0), 5);
        x.jam(0, false);
        x.setLimits(50, 70);
        Check.same("P31 good", x.fate(0), 2);
        x.setLimits(71, 80);
        Check.same("P31 under", x.fate(0), 3);
        x.setTare(-10);
        Check.same("P31 with a tare", x.fate(0), 2);
        x.step(21);
        x.setTare(0);
        Check.same("P31 it is decided", x.fate(0), 2);
        x.step(30);
        Check.same("P31 when it has left", x.fate(0), 2);
        Check.refusesIndex("P31 item 1", () -> x.fate(1));
        Check.refusesIndex("P31 item -1", () -> x.fate(-1));
        CheckWeigher late = Check.loaded(BELT + "gate under 300 10;limits 50 60;");
        late.put(40, 10);
        Check.same("P31 too slow", late.fate(0), 5);
        CheckWeigher two = Check.loaded(BELT + "gate unsteady 250 0;");
        two.put(40, 10);
        two.step(1);
        Check.same("P31 alone", two.fate(0), 2);
        two.put(40, 10);
        Check.same("P31 disturbed", two.fate(0), 3);
        Check.same("P31 disturbed", two.fate(1), 3);
        CheckWeigher zeroed = Check.loaded(BELT + "vibration 9 40 0;gate under 250 0;limits 50 60;zero 5;window 4;");
        zeroed.put(51, 10);
        zeroed.step(1);
        Check.same("P31 the table is zeroed first", zeroed.fate(0), 3);
    }

    /** Samples, empty ticks and decisions of before count in the fate. */
    private static void fateFromWhatWas() {
        CheckWeigher x = Check.loaded(BELT + "vibration 9 40 0;gate under 250 0;limits 34 60;window 4;zero 12;");
        x.step(5);
        x.put(51, 10);
        // the tare of the ticks 4 to 15: 9; the samples of the ticks 22 to 25: 42
        Check.same("P31 empty ticks before", x.fate(0), 3);
        x.setLimits(33, 60);
        Check.same("P31 empty ticks before", x.fate(0), 2);
        CheckWeigher y = Check.loaded("belt 1 100 200 400;gate over 300 0;drift 1 1;window 60;");
        y.put(50, 30);
        y.step(195);
        // 191 to 250 in the end
        y.setLimits(0, 219);
        Check.same("P31 samples before", y.fate(0), 3);
        y.setLimits(0, 220);
        Check.same("P31 samples before", y.fate(0), 2);
        y.step(6);
        y.setLimits(0, 1);
        Check.same("P31 decided before", y.fate(0), 2);
        CheckWeigher z = Check.loaded(BELT + "gate over 250 0;gate unsteady 300 0;limits 50 60;");
        z.put(70, 10);
        z.step(13);
        z.put(70, 10);
        Check.same("P31 first", z.fate(0), 3);
        z.step(3);
        z.put(70, 150);
        z.step(12);
        Check.same("P31 second is alone to the end", z.fate(1), 3);
        z.step(2);
        Check.same("P31 disturbed now", z.item(1, 5), 1);
        z.jam(1, true);
        Check.same("P31 disturbed, its gate is jammed", z.fate(1), 5);
    }

    private static void fateChangesNothing() {
        CheckWeigher x = Check.loaded(BELT + "vibration 9 6 0;gate over 250 0;limits 50 60;zero 2;");
        CheckWeigher y = Check.loaded(BELT + "vibration 9 6 0;gate over 250 0;limits 50 60;zero 2;");
        for (int i = 0; i < 8; i++) {
            x.put(48 + 3 * i, 20);
            y.put(48 + 3 * i, 20);
            for (int item = 0; item <= i; item++) {
                Check.same("P31 at most 5", x.fate(item) >= 2 && x.fate(item) <= 5, true);
            }
            Check.same("P31 decisions", x.step(11), y.step(11));
        }
        int[] fates = new int[8];
        for (int item = 0; item < 8; item++) {
            fates[item] = x.fate(item);
            for (int what = 0; what < 10; what++) {
                Check.same("P31 item stays", x.item(item, what), y.item(item, what));
            }
        }
        for (int what = 0; what < 12; what++) {
            Check.same("P31 report stays", x.report(what), y.report(what));
        }
        for (int ago = 0; ago < 60; ago++) {
            Check.same("P31 sample stays", x.sample(ago), y.sample(ago));
        }
        x.step(60);
        for (int item = 0; item < 8; item++) {
            Check.same("P31 it comes so", x.item(item, 3), fates[item]);
        }
    }

    private static void fateBeyondTheLastTime() {
        CheckWeigher x = Check.loaded("belt 1 10 20 9000;gate over 30 0;drift 1 400;limits 0 51;");
        Check.stepTo(x, 20000);
        x.put(1, 5);
        Check.same("P31 20015 / 400", x.fate(0), 2);
        x.setLimits(0, 50);
        Check.same("P31 20015 / 400", x.fate(0), 3);
        Check.same("P31 time stays", x.report(0), 20000);
    }

    private static void spacing() {
        CheckWeigher x = Check.loaded(BELT);
        int[] lengths = {1, 10, 11, 20, 21, 40, 100, 2000};
        int[] due = {100, 100, 110, 110, 120, 130, 190, 2090};
        for (int i = 0; i < lengths.length; i++) {
            Check.same("P32 spacing(" + lengths[i] + ")", x.spacing(lengths[i]), due[i]);
        }
        CheckWeigher fast = Check.loaded("belt 100 110 120 400;");
        Check.same("P32 never on it", fast.spacing(50), 100);
        Check.same("P32 at least the length", fast.spacing(80), 100);
        Check.same("P32 once", fast.spacing(100), 100);
        Check.same("P32 at least the length", fast.spacing(101), 200);
        Check.refusesArgument("P32 0", () -> x.spacing(0));
        Check.refusesArgument("P32 2001", () -> x.spacing(2001));
    }

    private static void spacingKeepsApart() {
        String text = "belt 7 103 251 4000;";
        for (int length = 1; length <= 148; length += 7) {
            CheckWeigher x = Check.loaded(text);
            int ticks = x.spacing(length) / 7;
            x.put(9, length);
            x.step(ticks);
            x.put(9, length);
            x.step(80);
            Check.same("P32 apart", x.item(0, 5) + x.item(1, 5), 0);
            for (int tick = 0; tick < 60; tick++) {
                Check.same("P32 never both", x.sample(tick) <= 9, true);
            }
            CheckWeigher y = Check.loaded(text);
            if ((ticks - 1) * 7 >= length) {
                y.put(9999, length);
                y.step(ticks - 1);
                y.put(9999, length);
                int both = 0;
                for (int tick = 0; tick < 60; tick++) {
                    y.step(1);
                    both += inPart(y, 0, length) && inPart(y, 1, length) ? 1 : 0;
                }
                Check.same("P32 nearer they are on it together", both >= 1, true);
            }
        }
    }

    private static boolean inPart(CheckWeigher x, int item, int length) {
        return x.item(item, 3) <= 1 && x.item(item, 2) > 103 && x.item(item, 2) - length < 251;
    }
}
