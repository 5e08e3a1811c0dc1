/** Promises 23 to 27: vibration, residue, bestWindow, weightWith, samplesFor. */
final class WindowsTest {
    private static final String BELT = "belt 10 100 200 400;";

    public static void main(String[] args) {
        vibration();
        residue();
        residueOfManyPeriods();
        residueAtTheEdges();
        residueAfterLoads();
        bestWindow();
        weightWith();
        samplesFor();
        Check.finish("WindowsTest");
    }

    private static void vibration() {
        CheckWeigher x = Check.loaded(BELT + "vibration 5 4 0;vibration 30 6 1;drift 9 1;");
        int[] due = {35, 35, -35, -35, -25, 35, 25, 25, -25, -25, -35, 25, 35};
        for (int tick = 0; tick < due.length; tick++) {
            Check.same("P23 vibration(" + tick + ")", x.vibration(tick), due[tick]);
        }
        Check.same("P23 last", x.vibration(20000), x.vibration(20000 % 12));
        Check.refusesArgument("P23 -1", () -> x.vibration(-1));
        Check.refusesArgument("P23 20001", () -> x.vibration(20001));
        Check.same("P23 none", new CheckWeigher().vibration(3), 0);
        CheckWeigher shortest = Check.loaded(BELT + "vibration 999 2 1;");
        Check.same("P23 shift", shortest.vibration(0), -999);
        Check.same("P23 shift", shortest.vibration(1), 999);
    }

    private static void residue() {
        CheckWeigher x = Check.loaded(BELT + "vibration 6 8 0;");
        int[] tops = {6, 6, 6, 6, 18, 2, 6, 0, 2, 6};
        int[] bottoms = {1, 1, 1, 1, 5, 1, 7, 1, 3, 5};
        for (int i = 0; i < tops.length; i++) {
            int window = i + 1;
            int top = x.residue(window, 0);
            int bottom = x.residue(window, 1);
            Check.same("P24 residue(" + window + ", 0)", top, tops[i]);
            Check.same("P24 residue(" + window + ", 1)", bottom, bottoms[i]);
        }
        Check.refusesArgument("P24 window 0", () -> x.residue(0, 0));
        Check.refusesArgument("P24 window 61", () -> x.residue(61, 0));
        Check.refusesArgument("P24 part -1", () -> x.residue(5, -1));
        Check.refusesArgument("P24 part 2", () -> x.residue(5, 2));
        CheckWeigher none = new CheckWeigher();
        Check.same("P24 0 / 1", none.residue(60, 0), 0);
        Check.same("P24 0 / 1", none.residue(60, 1), 1);
        Check.write(none, BELT + "vibration 7 40 0;");
        none.load();
        Check.same("P24 after load", none.residue(60, 0), 7);
        Check.same("P24 after load", none.residue(60, 1), 3);
        none.put(5, 5);
        none.step(7);
        Check.same("P24 at any time", none.residue(20, 0), 7);
    }

    /** All first ticks count, from 0 to 1679 and not beyond. */
    private static void residueOfManyPeriods() {
        CheckWeigher x = Check.loaded(BELT
            + "vibration 100 40 3;vibration 90 38 5;vibration 80 34 7;vibration 70 26 9;");
        int[][] vibrations = {{100, 40, 3}, {90, 38, 5}, {80, 34, 7}, {70, 26, 9}};
        for (int window = 1; window <= 60; window++) {
            int greatest = 0;
            for (int first = 0; first <= 1679; first++) {
                int sum = 0;
                for (int tick = first; tick < first + window; tick++) {
                    for (int[] v : vibrations) {
                        sum += (tick + v[2]) % v[1] < v[1] / 2 ? v[0] : -v[0];
                    }
                }
                greatest = Math.max(greatest, Math.abs(sum));
            }
            Check.same("P24 value " + window, (long) x.residue(window, 0) * window,
                (long) greatest * x.residue(window, 1));
        }
    }

    private static void residueAtTheEdges() {
        CheckWeigher x = Check.loaded(BELT + "vibration 20 26 5;vibration 8 32 0;vibration 9 40 12;vibration 13 22 3;");
        Check.same("P24 only from tick 0", x.residue(8, 0), 400 / 8);
        CheckWeigher y = Check.loaded(BELT + "vibration 1 40 1;vibration 17 22 15;vibration 17 26 11;vibration 12 32 25;");
        Check.same("P24 only from tick 1679", y.residue(8, 0), 376 / 8);
        CheckWeigher z = Check.loaded(BELT + "vibration 20 26 10;vibration 8 32 24;vibration 9 40 0;vibration 13 22 14;");
        // 400 from tick 1680, 374 before it
        Check.same("P24 not from tick 1680", z.residue(8, 0), 374 / 2);
        Check.same("P24 not from tick 1680", z.residue(8, 1), 8 / 2);
    }

    /** Other vibrations of the same number, and a refused load. */
    private static void residueAfterLoads() {
        CheckWeigher x = Check.loaded(BELT + "vibration 6 8 0;");
        Check.same("P24 period 8", x.residue(8, 0), 0);
        Check.same("P25 period 8", x.bestWindow(13), 8);
        Check.write(x, BELT + "vibration 7 12 0;");
        x.load();
        Check.same("P24 period 12", x.residue(8, 0), 7);
        Check.same("P24 period 12", x.residue(8, 1), 2);
        Check.same("P25 period 12", x.bestWindow(13), 12);
        Check.write(x, BELT + "vibration 7 10 0;?");
        Check.refusesArgument("P4 an error", x::load);
        Check.same("P24 still period 12", x.residue(12, 0), 0);
        Check.same("P25 still period 12", x.bestWindow(13), 12);
        Check.same("P23 still period 12", x.vibration(5), 7);
    }

    private static void bestWindow() {
        CheckWeigher x = Check.loaded(BELT + "vibration 6 8 0;");
        int[] due = {1, 2, 3, 4, 5, 6, 7, 8, 8, 8, 8, 8, 8, 8, 8, 16, 16};
        for (int i = 0; i < due.length; i++) {
            Check.same("P25 bestWindow(" + (i + 1) + ")", x.bestWindow(i + 1), due[i]);
        }
        Check.same("P25 bestWindow(60)", x.bestWindow(60), 56);
        Check.same("P25 no vibrations", new CheckWeigher().bestWindow(59), 59);
        CheckWeigher slow = Check.loaded(BELT + "vibration 6 2 0;vibration 600 40 0;");
        // up to 20 the slow one adds 600 to an even window and more to an odd one
        Check.same("P25 the greatest of equal ones", slow.bestWindow(19), 18);
        Check.refusesArgument("P25 0", () -> x.bestWindow(0));
        Check.refusesArgument("P25 61", () -> x.bestWindow(61));
    }

    private static void weightWith() {
        CheckWeigher x = Check.loaded(BELT + "vibration 4 20 0;window 3;notch on;");
        x.put(50, 30);
        x.step(12);
        Check.refusesElement("P26 no samples", () -> x.weightWith(0, 5));
        Check.refusesArgument("P26 window before samples", () -> x.weightWith(0, 0));
        x.step(1);
        Check.same("P26 one sample", x.weightWith(0, 60), 46);
        x.step(8);
        // seven samples of 46, then 54
        int[] due = {54, 50, 48, 48, 47, 47, 47, 47, 47};
        for (int i = 0; i < due.length; i++) {
            Check.same("P26 weightWith(0, " + (i + 1) + ")", x.weightWith(0, i + 1), due[i]);
        }
        x.setTare(60);
        Check.same("P26 present tare", x.weightWith(0, 1), -6);
        Check.same("P16 measured stays", x.measured(0), 48);
        Check.refusesIndex("P26 item 1", () -> x.weightWith(1, 5));
        Check.refusesIndex("P26 item -1", () -> x.weightWith(-1, 99));
        Check.refusesArgument("P26 window 0", () -> x.weightWith(0, 0));
        Check.refusesArgument("P26 window 61", () -> x.weightWith(0, 61));
        CheckWeigher negative = Check.loaded("belt 10 100 130 400;vibration 20 40 25;vibration 2 8 5;");
        negative.put(1, 10);
        negative.step(13);
        // whole with the fronts 110 to 130
        int sum = 3 + negative.vibration(11) + negative.vibration(12) + negative.vibration(13);
        Check.same("P26 samples", sum, sum < 0 ? sum : -1);
        Check.same("P26 rounded toward 0", negative.weightWith(0, 3), -(-sum / 3));
    }

    private static void samplesFor() {
        CheckWeigher x = Check.loaded(BELT);
        int[] lengths = {1, 9, 10, 11, 40, 90, 91, 100, 101, 2000};
        int[] due = {10, 10, 10, 9, 7, 2, 1, 1, 0, 0};
        for (int i = 0; i < lengths.length; i++) {
            Check.same("P27 samplesFor(" + lengths[i] + ")", x.samplesFor(lengths[i]), due[i]);
        }
        CheckWeigher fast = Check.loaded("belt 97 110 290 400;");
        // the fronts 194 and 291; whole from the length + 110 to 290
        Check.same("P27 one front", fast.samplesFor(84), 1);
        Check.same("P27 none", fast.samplesFor(85), 0);
        CheckWeigher y = Check.loaded("belt 7 100 251 999;");
        for (int length = 1; length <= 160; length += 3) {
            Check.write(y, "belt 7 100 251 999;");
            y.load();
            y.put(9, length);
            y.step(50);
            Check.same("P27 as many samples", y.samplesFor(length), y.item(0, 4));
        }
        Check.refusesArgument("P27 0", () -> x.samplesFor(0));
        Check.refusesArgument("P27 2001", () -> x.samplesFor(2001));
    }
}
