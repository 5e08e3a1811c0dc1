/** The edges that the document names for the questions (promises 7, 8, 17, 18 and 23 to 32). */
final class QuestionEdgesTest {
    private static final String BELT = "belt 10 100 200 400;";
    /** An item of 3 is there as a whole at the ticks 13 to 20, is decided at 21 and leaves at 60. */
    private static final String SLOW = "belt 1 10 20 60;";
    private static final int LEAST = Integer.MIN_VALUE;
    private static final int GREATEST = Integer.MAX_VALUE;

    public static void main(String[] args) {
        reportRanges();
        itemsOnTheBelt();
        gateRanges();
        gateOpenAtThePresentTime();
        sampleRanges();
        sampleRing();
        sampleOfRanges();
        vibrationRanges();
        vibrationWraps();
        residueRanges();
        residueInLowestTerms();
        residueOfNothing();
        residueFirstTicks();
        bestWindowRanges();
        bestWindowOfEqualOnes();
        weightWithRanges();
        weightWithFewSamples();
        samplesForRanges();
        samplesForEdges();
        arrivalRanges();
        arrivalEdges();
        arrivalOffTheBelt();
        openTicksRanges();
        openTicksEdges();
        commonTicksCountOnce();
        fateRanges();
        fateOfEachState();
        fateEdges();
        fateOfOneDisturbedBefore();
        spacingRanges();
        spacingEdges();
        sixtyGoodItems();
        fewerItemsThanBefore();
        threeGates();
        allIsFull();
        Check.finish("QuestionEdgesTest");
    }

    private static void reportRanges() {
        CheckWeigher x = new CheckWeigher();
        int[] wrong = {-1, 12, LEAST, GREATEST};
        for (int what : wrong) {
            Check.refusesArgument("P7 what " + what, () -> x.report(what));
        }
        Check.same("P7 what 0", x.report(0), 0);
        Check.same("P7 what 11", x.report(11), 0);
    }

    private static void itemsOnTheBelt() {
        CheckWeigher x = Check.loaded(SLOW);
        Check.same("P7 the empty belt", x.report(9), 0);
        x.put(30, 3);
        Check.same("P7 one at once", x.report(9), 1);
        Check.same("P7 one since loading", x.report(8), 1);
        x.step(60);
        Check.same("P7 empty again", x.report(9), 0);
        Check.same("P7 still one since loading", x.report(8), 1);
    }

    private static void gateRanges() {
        String[] gates = {"", "gate under 30 0;", "gate under 30 0;gate over 31 0;",
            "gate under 30 0;gate over 31 0;gate unsteady 32 50;"};
        for (int number = 0; number <= 3; number++) {
            CheckWeigher x = Check.loaded(SLOW + gates[number]);
            int[] none = {-1, number, number + 1, LEAST, GREATEST};
            for (int gate : none) {
                Check.refusesIndex("P8 gate " + gate, () -> x.gate(gate, 0));
                Check.refusesIndex("P8 gate and what", () -> x.gate(gate, 9));
                Check.refusesIndex("P29 gate " + gate, () -> x.openTicks(gate));
                Check.refusesIndex("P30 gate " + gate, () -> x.opensAt(gate));
            }
            for (int gate = 0; gate < number; gate++) {
                Check.same("P8 position", x.gate(gate, 1), 30 + gate);
            }
        }
        CheckWeigher x = Check.loaded(SLOW + gates[3]);
        int[] wrong = {-1, 9, LEAST, GREATEST};
        for (int what : wrong) {
            Check.refusesArgument("P8 what " + what, () -> x.gate(2, what));
        }
        Check.same("P8 what 0", x.gate(2, 0), 3);
        Check.same("P8 what 2", x.gate(2, 2), 50);
        Check.same("P8 what 8", x.gate(2, 8), 0);
    }

    /** Commanded from 30 up to, and not including, 33. */
    private static void gateOpenAtThePresentTime() {
        CheckWeigher x = Check.loaded(SLOW + "gate over 30 0;limits 0 0;");
        x.put(50, 3);
        x.step(28);
        for (int time = 29; time <= 34; time++) {
            x.step(1);
            int due = time >= 30 && time < 33 ? 1 : 0;
            Check.same("P8 open at " + time, x.gate(0, 6), due);
            x.jam(0, true);
            Check.same("P8 jammed at " + time, x.gate(0, 6), 0);
            x.jam(0, false);
            Check.same("P8 freed at " + time, x.gate(0, 6), due);
        }
    }

    private static void sampleRanges() {
        CheckWeigher x = Check.loaded(SLOW + "drift 1 1;");
        int[] wrong = {-1, 60, LEAST, GREATEST};
        for (int ago : wrong) {
            Check.refusesArgument("P18 ago " + ago, () -> x.sample(ago));
        }
        Check.refusesElement("P18 0 at time 0", () -> x.sample(0));
        Check.refusesElement("P18 59 at time 0", () -> x.sample(59));
        x.step(1);
        Check.same("P18 0 at time 1", x.sample(0), 1);
        Check.refusesElement("P18 1 at time 1", () -> x.sample(1));
        x.step(58);
        Check.same("P18 58 at time 59", x.sample(58), 1);
        Check.refusesElement("P18 59 at time 59", () -> x.sample(59));
        x.step(1);
        Check.same("P18 59 at time 60", x.sample(59), 1);
        Check.refusesArgument("P18 60 at time 60", () -> x.sample(60));
        x.step(1);
        Check.same("P18 59 at time 61", x.sample(59), 2);
        Check.refusesArgument("P18 60 at time 61", () -> x.sample(60));
        Check.write(x, SLOW);
        x.load();
        Check.refusesElement("P18 none since loading", () -> x.sample(0));
    }

    private static void sampleRing() {
        CheckWeigher x = Check.loaded(SLOW + "drift 1 1;");
        for (int time = 1; time <= 130; time++) {
            x.step(1);
            Check.same("P18 latest", x.sample(0), time);
            Check.same("P18 some before", x.sample(Math.min(time - 1, time % 60)), time - Math.min(time - 1, time % 60));
        }
        Check.stepTo(x, 20000);
        Check.same("P18 at the last time", x.sample(0), 20000);
        Check.same("P18 59 before it", x.sample(59), 19941);
    }

    private static void sampleOfRanges() {
        CheckWeigher x = Check.loaded(SLOW + "drift 1 1;");
        x.put(100, 3);
        x.step(12);
        Check.refusesIndex("P17 none yet", () -> x.sampleOf(0, 0));
        x.step(1);
        Check.same("P17 one", x.sampleOf(0, 0), 113);
        Check.refusesIndex("P17 not two", () -> x.sampleOf(0, 1));
        x.step(50);
        Check.same("P17 the oldest", x.sampleOf(0, 0), 113);
        Check.same("P17 the latest", x.sampleOf(0, 7), 120);
        int[] wrong = {-1, 8, 59, 60, LEAST, GREATEST};
        for (int index : wrong) {
            Check.refusesIndex("P17 index " + index, () -> x.sampleOf(0, index));
        }
    }

    private static void vibrationRanges() {
        CheckWeigher x = Check.loaded(SLOW + "vibration 7 40 39;");
        int[] wrong = {-1, 20001, LEAST, GREATEST};
        for (int tick : wrong) {
            Check.refusesArgument("P23 tick " + tick, () -> x.vibration(tick));
        }
        Check.same("P23 tick 0", x.vibration(0), -7);
        Check.same("P23 tick 20000", x.vibration(20000), -7);
        Check.same("P23 tick 19999", x.vibration(19999), -7);
        Check.same("P23 tick 19981", x.vibration(19981), -7);
        Check.same("P23 tick 19980", x.vibration(19980), 7);
        CheckWeigher none = Check.loaded(SLOW);
        Check.same("P23 no vibrations", none.vibration(0), 0);
        Check.refusesArgument("P23 no vibrations, -1", () -> none.vibration(-1));
    }

    /** Each period and shift: the first half is positive, the second one negative, and so on anew. */
    private static void vibrationWraps() {
        for (int period = 2; period <= 40; period += 2) {
            int[] shifts = {0, 1, period / 2 - 1, period / 2, period - 1};
            for (int shift : shifts) {
                CheckWeigher x = Check.loaded(SLOW + "vibration 9 " + period + " " + shift + ";");
                int phase = shift;
                for (int tick = 0; tick <= 2 * period; tick++) {
                    Check.same("P23 " + period + " " + shift + " tick " + tick, x.vibration(tick),
                        phase < period / 2 ? 9 : -9);
                    phase = phase + 1 == period ? 0 : phase + 1;
                }
            }
        }
    }

    private static void residueRanges() {
        CheckWeigher x = Check.loaded(SLOW + "vibration 7 40 0;");
        int[] windows = {0, -1, 61, LEAST, GREATEST};
        int[] parts = {-1, 2, LEAST, GREATEST};
        for (int window : windows) {
            Check.refusesArgument("P24 window " + window, () -> x.residue(window, 0));
            Check.refusesArgument("P24 window and part", () -> x.residue(window, 2));
        }
        for (int part : parts) {
            Check.refusesArgument("P24 part " + part, () -> x.residue(1, part));
        }
        Check.same("P24 window 1, part 0", x.residue(1, 0), 7);
        Check.same("P24 window 1, part 1", x.residue(1, 1), 1);
        Check.same("P24 window 60, part 0", x.residue(60, 0), 7);
        Check.same("P24 window 60, part 1", x.residue(60, 1), 3);
    }

    private static void residueInLowestTerms() {
        CheckWeigher x = Check.loaded(SLOW + "vibration 6 40 0;");
        // the sum is 6 * window up to 20, then less by 6 a tick
        int[] windows = {20, 21, 22, 25, 30, 39, 40, 41, 60};
        int[] tops = {6, 38, 54, 18, 2, 2, 0, 6, 2};
        int[] bottoms = {1, 7, 11, 5, 1, 13, 1, 41, 1};
        for (int i = 0; i < windows.length; i++) {
            Check.same("P24 numerator " + windows[i], x.residue(windows[i], 0), tops[i]);
            Check.same("P24 denominator " + windows[i], x.residue(windows[i], 1), bottoms[i]);
        }
    }

    private static void residueOfNothing() {
        CheckWeigher x = Check.loaded(SLOW);
        CheckWeigher y = Check.loaded(SLOW + "vibration 5 6 0;vibration 5 6 3;");
        for (int window = 1; window <= 60; window++) {
            Check.same("P24 no vibrations", x.residue(window, 0), 0);
            Check.same("P24 0 / 1", x.residue(window, 1), 1);
            Check.same("P24 they cancel", y.residue(window, 0), 0);
            Check.same("P24 0 / 1", y.residue(window, 1), 1);
        }
    }

    private static CheckWeigher four(int[] amplitudes, int[] periods, int[] shifts) {
        StringBuilder text = new StringBuilder(SLOW);
        for (int i = 0; i < 4; i++) {
            text.append("vibration ").append(amplitudes[i]).append(' ').append(periods[i]).append(' ')
                .append(shifts[i]).append(';');
        }
        return Check.loaded(text.toString());
    }

    /** Sums of sixty that are greatest at the one first tick alone, and the same a tick beyond it. */
    private static void residueFirstTicks() {
        int[] last = {30, 27, 19, 5};
        int[] lastPeriods = {34, 36, 40, 38};
        CheckWeigher x = four(last, lastPeriods, new int[] {12, 11, 0, 29});
        Check.same("P24 986 from tick 1679", x.residue(60, 0), 986 / 2);
        Check.same("P24 986 / 60", x.residue(60, 1), 60 / 2);
        CheckWeigher beyond = four(last, lastPeriods, new int[] {11, 10, 39, 28});
        Check.same("P24 986 from tick 1680, 948 before", beyond.residue(60, 0), 948 / 12);
        Check.same("P24 948 / 60", beyond.residue(60, 1), 60 / 12);
        int[] first = {29, 11, 4, 8};
        int[] firstPeriods = {26, 24, 34, 38};
        CheckWeigher y = four(first, firstPeriods, new int[] {0, 0, 24, 0});
        Check.same("P24 516 from tick 0", y.residue(60, 0), 516 / 12);
        Check.same("P24 516 / 60", y.residue(60, 1), 60 / 12);
        CheckWeigher before = four(first, firstPeriods, new int[] {1, 1, 25, 1});
        Check.same("P24 516 from tick -1, 486 later", before.residue(60, 0), 486 / 6);
        Check.same("P24 486 / 60", before.residue(60, 1), 60 / 6);
    }

    private static void bestWindowRanges() {
        CheckWeigher x = Check.loaded(SLOW + "vibration 5 6 0;");
        int[] wrong = {0, -1, 61, LEAST, GREATEST};
        for (int most : wrong) {
            Check.refusesArgument("P25 most " + most, () -> x.bestWindow(most));
        }
        Check.same("P25 most 1", x.bestWindow(1), 1);
        Check.same("P25 most 4", x.bestWindow(4), 4);
        Check.same("P25 most 5", x.bestWindow(5), 5);
        Check.same("P25 most 6", x.bestWindow(6), 6);
        Check.same("P25 most 59", x.bestWindow(59), 54);
        Check.same("P25 most 60", x.bestWindow(60), 60);
    }

    private static void bestWindowOfEqualOnes() {
        CheckWeigher none = Check.loaded(SLOW);
        CheckWeigher slow = Check.loaded(SLOW + "vibration 5 40 0;");
        for (int most = 1; most <= 60; most++) {
            Check.same("P25 all are 0", none.bestWindow(most), most);
            // 5 up to 20, then falling to 0 at 40, then less than before but not 0
            Check.same("P25 period 40", slow.bestWindow(most), most <= 40 ? most : 40);
        }
        CheckWeigher two = Check.loaded(SLOW + "vibration 5 4 0;");
        int[] due = {1, 2, 3, 4, 4, 4, 4, 8, 8};
        for (int most = 1; most <= due.length; most++) {
            Check.same("P25 period 4", two.bestWindow(most), due[most - 1]);
        }
    }

    private static void weightWithRanges() {
        CheckWeigher x = Check.loaded(SLOW);
        Check.refusesIndex("P26 no item at all", () -> x.weightWith(0, 1));
        x.put(30, 3);
        int[] none = {-1, 1, LEAST, GREATEST};
        int[] wrong = {0, -1, 61, LEAST, GREATEST};
        for (int item : none) {
            Check.refusesIndex("P26 item " + item, () -> x.weightWith(item, 1));
            Check.refusesIndex("P26 item and window", () -> x.weightWith(item, 0));
        }
        for (int window : wrong) {
            Check.refusesArgument("P26 window " + window + " without samples", () -> x.weightWith(0, window));
        }
        Check.refusesElement("P26 no samples, window 1", () -> x.weightWith(0, 1));
        Check.refusesElement("P26 no samples, window 60", () -> x.weightWith(0, 60));
        x.step(13);
        for (int window : wrong) {
            Check.refusesArgument("P26 window " + window, () -> x.weightWith(0, window));
        }
        Check.same("P26 window 1", x.weightWith(0, 1), 30);
        Check.same("P26 window 60", x.weightWith(0, 60), 30);
    }

    private static void weightWithFewSamples() {
        CheckWeigher x = Check.loaded(SLOW + "drift 2 1;window 2;");
        x.put(100, 3);
        x.step(12);
        Check.refusesElement("P26 none yet", () -> x.weightWith(0, 5));
        x.step(3);
        // 126, 128, 130
        Check.same("P26 the latest one", x.weightWith(0, 1), 130);
        Check.same("P26 the latest two", x.weightWith(0, 2), 129);
        Check.same("P26 all three", x.weightWith(0, 3), 128);
        Check.same("P26 three for four", x.weightWith(0, 4), 128);
        x.step(1);
        Check.same("P26 the samples of now", x.weightWith(0, 4), 129);
        x.step(100);
        // 126 to 140
        Check.same("P26 off the belt too", x.weightWith(0, 60), 133);
        Check.same("P26 eight of eight", x.weightWith(0, 8), 133);
        Check.same("P26 seven of eight", x.weightWith(0, 7), 134);
        x.setTare(-9999);
        Check.same("P26 the least tare", x.weightWith(0, 8), 133 + 9999);
        CheckWeigher y = Check.loaded("belt 1 10 80 90;drift 1 1;");
        y.put(100, 1);
        y.step(81);
        Check.same("P26 sixty of seventy", y.weightWith(0, 60), 150);
        Check.same("P26 fifty-nine", y.weightWith(0, 59), 151);
    }

    private static void samplesForRanges() {
        CheckWeigher x = Check.loaded(SLOW);
        int[] wrong = {0, -1, 2001, LEAST, GREATEST};
        for (int length : wrong) {
            Check.refusesArgument("P27 length " + length, () -> x.samplesFor(length));
            Check.refusesArgument("P32 length " + length, () -> x.spacing(length));
        }
        Check.same("P27 length 1", x.samplesFor(1), 10);
        Check.same("P27 length 2000", x.samplesFor(2000), 0);
    }

    private static void samplesForEdges() {
        CheckWeigher x = Check.loaded(SLOW);
        Check.same("P27 as long as the table", x.samplesFor(10), 1);
        Check.same("P27 longer", x.samplesFor(11), 0);
        Check.same("P27 shorter", x.samplesFor(9), 2);
        CheckWeigher longTable = Check.loaded("belt 1 1 2001 9000;");
        Check.same("P27 2000 on 2000", longTable.samplesFor(2000), 1);
        CheckWeigher longer = Check.loaded("belt 1 1 2002 9000;");
        Check.same("P27 2000 on 2001", longer.samplesFor(2000), 2);
        // the fronts 150 and 180 alone may be there; the rear has to be at 101 or more
        CheckWeigher fast = Check.loaded("belt 30 101 199 400;");
        int[] lengths = {1, 19, 20, 49, 50, 79, 80, 98};
        int[] due = {3, 3, 2, 2, 1, 1, 0, 0};
        for (int i = 0; i < lengths.length; i++) {
            Check.same("P27 length " + lengths[i], fast.samplesFor(lengths[i]), due[i]);
            CheckWeigher y = Check.loaded("belt 30 101 199 400;");
            y.put(5, lengths[i]);
            y.step(14);
            Check.same("P15 as many samples", y.item(0, 4), due[i]);
        }
        CheckWeigher over = Check.loaded("belt 100 110 190 400;");
        Check.same("P27 no front stands on the table", over.samplesFor(1), 0);
    }

    private static void arrivalRanges() {
        CheckWeigher x = Check.loaded(SLOW + "gate under 30 0;gate over 59 0;");
        int[] noItem = {-1, 0, LEAST, GREATEST};
        for (int item : noItem) {
            Check.refusesIndex("P28 item " + item, () -> x.arrival(item, 0));
            Check.refusesIndex("P31 item " + item, () -> x.fate(item));
        }
        x.put(30, 3);
        int[] noGate = {-1, 2, 3, LEAST, GREATEST};
        for (int gate : noGate) {
            Check.refusesIndex("P28 gate " + gate, () -> x.arrival(0, gate));
            Check.refusesIndex("P28 neither", () -> x.arrival(1, gate));
        }
        Check.refusesIndex("P28 item 1", () -> x.arrival(1, 0));
        Check.same("P28 gate 0", x.arrival(0, 0), 30);
        Check.same("P28 gate 1", x.arrival(0, 1), 59);
        x.step(100);
        Check.refusesIndex("P28 no gate comes before off the belt", () -> x.arrival(0, 2));
        Check.refusesElement("P28 off the belt", () -> x.arrival(0, 1));
        CheckWeigher none = Check.loaded(SLOW);
        none.put(30, 3);
        Check.refusesIndex("P28 no gates at all", () -> none.arrival(0, 0));
    }

    private static void arrivalEdges() {
        CheckWeigher x = Check.loaded(SLOW + "gate under 30 0;gate over 59 0;");
        x.put(30, 3);
        x.step(29);
        Check.same("P28 at least 1", x.arrival(0, 0), 1);
        x.step(1);
        Check.refusesElement("P28 at the gate", () -> x.arrival(0, 0));
        Check.same("P28 the next gate", x.arrival(0, 1), 29);
        x.step(1);
        Check.refusesElement("P28 behind the gate", () -> x.arrival(0, 0));
        x.step(27);
        Check.same("P28 at least 1", x.arrival(0, 1), 1);
        x.step(1);
        Check.same("P15 on the belt", x.item(0, 3), 1);
        Check.refusesElement("P28 at the last gate", () -> x.arrival(0, 1));
        CheckWeigher y = Check.loaded(BELT + "gate under 201 0;gate over 210 0;gate unsteady 211 0;");
        y.put(30, 3);
        Check.same("P28 201 by tens", y.arrival(0, 0), 21);
        Check.same("P28 210 by tens", y.arrival(0, 1), 21);
        Check.same("P28 211 by tens", y.arrival(0, 2), 22);
        y.step(20);
        Check.same("P28 1 mm", y.arrival(0, 0), 1);
        Check.same("P28 10 mm", y.arrival(0, 1), 1);
        Check.same("P28 11 mm", y.arrival(0, 2), 2);
    }

    private static void arrivalOffTheBelt() {
        CheckWeigher x = Check.loaded(SLOW + "gate over 30 0;gate under 50 0;limits 0 0;");
        x.put(30, 3);
        x.step(29);
        Check.same("P28 both are before it", x.arrival(0, 0) + x.arrival(0, 1), 1 + 21);
        x.step(1);
        Check.same("P15 diverted", x.item(0, 3), 3);
        Check.refusesElement("P28 diverted there", () -> x.arrival(0, 0));
        Check.refusesElement("P28 diverted before it", () -> x.arrival(0, 1));
        CheckWeigher y = Check.loaded("belt 100 10 20 60;gate over 30 0;");
        y.put(30, 3);
        Check.same("P28 one tick", y.arrival(0, 0), 1);
        y.step(1);
        Check.refusesElement("P28 passed to the end", () -> y.arrival(0, 0));
    }

    private static void openTicksRanges() {
        CheckWeigher x = Check.loaded(SLOW + "gate under 30 0;");
        Check.same("P29 nothing is commanded", x.openTicks(0), 0);
        Check.refusesElement("P30 nothing is commanded", () -> x.opensAt(0));
        Check.refusesIndex("P29 gate 1", () -> x.openTicks(1));
        Check.refusesIndex("P30 gate 1", () -> x.opensAt(1));
    }

    /** Commanded at 30, 31 and 32. */
    private static void openTicksEdges() {
        CheckWeigher x = Check.loaded(SLOW + "gate over 30 0;limits 0 0;");
        x.put(50, 3);
        x.step(20);
        Check.same("P29 before the decision", x.openTicks(0), 0);
        Check.refusesElement("P30 before the decision", () -> x.opensAt(0));
        int[] ticks = {3, 3, 3, 3, 3, 3, 3, 3, 3, 2, 1, 0, 0};
        int[] first = {30, 30, 30, 30, 30, 30, 30, 30, 30, 31, 32, 0, 0};
        for (int i = 0; i < ticks.length; i++) {
            x.step(1);
            Check.same("P29 at " + (21 + i), x.openTicks(0), ticks[i]);
            x.jam(0, i % 2 == 0);
            Check.same("P29 jammed or not", x.openTicks(0), ticks[i]);
            if (first[i] == 0) {
                Check.refusesElement("P30 at " + (21 + i), () -> x.opensAt(0));
            } else {
                Check.same("P30 at " + (21 + i), x.opensAt(0), first[i]);
            }
            x.jam(0, false);
        }
    }

    /** The first one is commanded at 30 to 69, the second, put at 30, at 60 to 74. */
    private static void commonTicksCountOnce() {
        int[] lengths = {9, 10, 15};
        int[] last = {69, 69, 74};
        for (int i = 0; i < lengths.length; i++) {
            CheckWeigher x = Check.loaded("belt 1 10 20 100;gate unsteady 30 0;least 60;");
            x.put(50, 40);
            x.step(30);
            x.put(50, lengths[i]);
            x.step(21);
            Check.same("P15 the second is decided", x.item(1, 7), 0);
            Check.same("P29 the ticks of both", x.openTicks(0), last[i] - 51);
            Check.same("P30 the next tick", x.opensAt(0), 52);
            x.step(18);
            Check.same("P29 at 69", x.openTicks(0), last[i] - 69);
            if (last[i] == 69) {
                Check.refusesElement("P30 at 69", () -> x.opensAt(0));
            } else {
                Check.same("P30 at 69", x.opensAt(0), 70);
            }
        }
        // commanded at 30 and at 31: one item behind the other without a tick between them
        CheckWeigher y = Check.loaded(SLOW + "gate unsteady 30 0;least 60;");
        y.put(50, 1);
        y.step(1);
        y.put(50, 1);
        y.step(21);
        Check.same("P29 one tick each", y.openTicks(0), 2);
        Check.same("P30 the first one", y.opensAt(0), 30);
        y.step(8);
        Check.same("P29 one is left", y.openTicks(0), 1);
        Check.same("P30 the second one", y.opensAt(0), 31);
        // commanded at 30 and at 33
        CheckWeigher z = Check.loaded(SLOW + "gate unsteady 30 0;least 60;");
        z.put(50, 1);
        z.step(3);
        z.put(50, 1);
        z.step(27);
        Check.same("P30 past the first one", z.opensAt(0), 33);
        Check.same("P29 past the first one", z.openTicks(0), 1);
    }

    private static void fateRanges() {
        CheckWeigher x = Check.loaded(SLOW);
        x.put(30, 3);
        int[] none = {-1, 1, LEAST, GREATEST};
        for (int item : none) {
            Check.refusesIndex("P31 item " + item, () -> x.fate(item));
        }
        Check.same("P31 item 0", x.fate(0), 2);
    }

    private static void fateOfEachState() {
        String text = "belt 1 10 20 99;gate over 30 0;gate unsteady 40 0;limits 0 35;";
        int[] weights = {30, 40};
        int[] due = {2, 3};
        for (int i = 0; i < 2; i++) {
            CheckWeigher x = Check.loaded(text);
            x.put(weights[i], 3);
            Check.same("P31 in state 0", x.fate(0), due[i]);
            x.step(20);
            Check.same("P31 still in state 0", x.fate(0), due[i]);
            x.step(1);
            Check.same("P31 in state 1", x.fate(0), due[i]);
            x.step(100);
            Check.same("P31 when it has left", x.fate(0), due[i]);
            Check.same("P15 its state", x.item(0, 3), due[i]);
        }
        CheckWeigher jammed = Check.loaded(text);
        jammed.put(40, 3);
        jammed.jam(0, true);
        Check.same("P31 a miss", jammed.fate(0), 5);
        jammed.step(29);
        Check.same("P31 a miss before the gate", jammed.fate(0), 5);
        jammed.jam(0, false);
        Check.same("P31 freed in time", jammed.fate(0), 3);
        jammed.jam(0, true);
        jammed.step(1);
        jammed.jam(0, false);
        Check.same("P31 freed too late", jammed.fate(0), 5);
        CheckWeigher other = Check.loaded(text);
        other.put(30, 90);
        other.step(40);
        other.put(30, 3);
        Check.same("P31 a false reject", other.fate(1), 4);
        other.jam(1, true);
        Check.same("P31 not at a jammed gate", other.fate(1), 2);
        other.jam(1, false);
        other.step(40);
        Check.same("P15 a false reject", other.item(1, 3), 4);
        Check.same("P31 it stays one", other.fate(1), 4);
    }

    private static void fateEdges() {
        // the gate of an item of 40 is open up to 69
        for (int put = 39; put <= 40; put++) {
            CheckWeigher x = Check.loaded("belt 1 10 20 99;gate unsteady 30 0;");
            x.put(30, 40);
            x.step(put);
            x.put(40, 3);
            Check.same("P31 put at " + put, x.fate(1), put == 39 ? 4 : 2);
        }
        CheckWeigher first = Check.loaded(SLOW + "gate unsteady 59 50;");
        first.put(30, 11);
        Check.same("P31 39 ticks to the gate, 50 to open it", first.fate(0), 5);
        CheckWeigher wide = Check.loaded(SLOW + "gate unsteady 59 38;");
        wide.put(30, 11);
        Check.same("P31 38 ticks to the gate, 38 to open it", wide.fate(0), 3);
        CheckWeigher late = Check.loaded(SLOW + "gate unsteady 59 39;");
        late.put(30, 11);
        Check.same("P31 38 ticks to the gate, 39 to open it", late.fate(0), 5);
        CheckWeigher far = Check.loaded("belt 1 2000 4000 9000;gate over 8999 0;limits 0 0;");
        far.put(30, 2000);
        Check.same("P31 8999 ticks away", far.fate(0), 3);
        far.jam(0, true);
        Check.same("P31 9000 ticks away", far.fate(0), 5);
        Check.same("P31 no time went by", far.report(0), 0);
        Check.same("P31 nothing moved", far.item(0, 2), 0);
    }

    /** The second, as a whole on the table from tick 24 on, is disturbed at that tick alone. */
    private static void fateOfOneDisturbedBefore() {
        String text = "belt 1 10 20 100;gate unsteady 50 0;";
        for (int put = 13; put <= 14; put++) {
            CheckWeigher x = Check.loaded(text);
            x.put(30, 5);
            x.step(put);
            x.put(40, 1);
            int due = put == 13 ? 3 : 2;
            Check.same("P31 before it is disturbed", x.fate(1), due);
            x.step(25 - put);
            Check.same("P31 the one before is good", x.fate(0), 2);
            Check.same("P31 on the table", x.fate(1), due);
            x.step(1);
            Check.same("P31 later on the table", x.fate(1), due);
            Check.same("P15 disturbed or not", x.item(1, 5), put == 13 ? 1 : 0);
        }
        // asked for the first time behind that tick, and of the item with its number behind a load
        CheckWeigher y = Check.loaded(text);
        y.put(30, 5);
        y.step(13);
        y.put(40, 1);
        y.step(13);
        Check.same("P15 disturbed", y.item(1, 5), 1);
        Check.same("P31 disturbed before", y.fate(1), 3);
        Check.write(y, text);
        y.load();
        y.put(30, 5);
        y.step(14);
        y.put(40, 1);
        y.step(12);
        Check.same("P31 not disturbed since loading", y.fate(1), 2);
    }

    private static void spacingRanges() {
        CheckWeigher x = Check.loaded(SLOW);
        // 1: on the table in part with the fronts 11 to 20; 2000: 11 to 2019
        Check.same("P32 length 1", x.spacing(1), 10);
        Check.same("P32 length 2", x.spacing(2), 11);
        Check.same("P32 length 2000", x.spacing(2000), 2009);
        CheckWeigher most = Check.loaded("belt 1 1 4000 9000;");
        Check.same("P32 the longest of all", most.spacing(2000), 5998);
    }

    private static void spacingEdges() {
        CheckWeigher tens = Check.loaded(BELT);
        // in part with the fronts 110 to 200, and 210 if the rear is before 200 then
        Check.same("P32 length 1", tens.spacing(1), 100);
        Check.same("P32 length 10", tens.spacing(10), 100);
        Check.same("P32 length 11", tens.spacing(11), 110);
        CheckWeigher never = Check.loaded("belt 100 110 120 400;");
        Check.same("P32 never on the table, the length counts", never.spacing(1), 100);
        Check.same("P32 as long as a tick", never.spacing(80), 100);
        Check.same("P32 once on it", never.spacing(100), 100);
        Check.same("P32 longer than a tick", never.spacing(101), 200);
        Check.same("P32 two ticks", never.spacing(200), 200);
        Check.same("P32 longer than two ticks", never.spacing(201), 300);
        CheckWeigher free = Check.loaded("belt 40 110 120 400;");
        // in part with the front at 120 alone up to length 40
        Check.same("P32 length 40", free.spacing(40), 40);
        Check.same("P32 length 41", free.spacing(41), 80);
    }

    /** Sixty items of the weights 1 to 60, each alone on the table. */
    private static CheckWeigher sixty() {
        CheckWeigher x = Check.loaded(SLOW);
        for (int weight = 1; weight <= 60; weight++) {
            x.put(weight, 1);
            x.step(10);
        }
        x.step(50);
        return x;
    }

    private static void sixtyGoodItems() {
        CheckWeigher x = sixty();
        Check.same("P20 all are good", x.decided(1), 60);
        Check.same("P19 all passed", x.count(2), 60);
        Check.sameDouble("P21 the mean of all", x.meanGood(), 30.5);
        Check.sameDouble("P22 no error", x.meanError(), 0.0);
        Check.same("P16 the last one", x.measured(59), 60);
        Check.same("P26 the last one", x.weightWith(59, 60), 60);
        Check.same("P17 the last one's last sample", x.sampleOf(59, 9), 60);
        Check.same("P31 the last one", x.fate(59), 2);
        Check.same("P7 the belt is empty", x.report(9), 0);
        Check.refusesIndex("P16 no item 60", () -> x.measured(60));
        Check.refusesIndex("P17 no item 60", () -> x.sampleOf(60, 0));
        Check.refusesIndex("P26 no item 60", () -> x.weightWith(60, 1));
        Check.refusesIndex("P31 no item 60", () -> x.fate(60));
    }

    /** Items from before a load count nowhere, nor do those that a refused put would have made. */
    private static void fewerItemsThanBefore() {
        CheckWeigher x = sixty();
        Check.write(x, SLOW + "gate over 30 0;limits 0 50;");
        x.load();
        Check.refusesElement("P21 none", x::meanGood);
        Check.refusesElement("P22 none", x::meanError);
        x.put(7, 1);
        x.step(10);
        x.put(60, 1);
        x.step(10);
        Check.refusesElement("P21 none yet", x::meanGood);
        x.step(1);
        Check.sameDouble("P21 one", x.meanGood(), 7.0);
        Check.same("P29 nothing is commanded", x.openTicks(0), 0);
        x.step(10);
        Check.sameDouble("P22 two", x.meanError(), 0.0);
        Check.same("P20 good ones", x.decided(1), 1);
        Check.same("P20 over", x.decided(2), 1);
        Check.same("P29 for one", x.openTicks(0), 1);
        Check.same("P30 for one", x.opensAt(0), 40);
        Check.same("P19 in state 1", x.count(1), 2);
        Check.same("P19 in state 2", x.count(2), 0);
        Check.same("P7 on the belt", x.report(9), 2);
    }

    private static void threeGates() {
        String text = SLOW + "gate unsteady 30 0;gate over 31 0;gate under 32 0;limits 30 40;confirm 1;";
        for (int fails = 0; fails < 8; fails++) {
            CheckWeigher x = Check.loaded(text);
            x.put(35, 11);
            x.step(31);
            x.put(50, 3);
            x.step(32);
            x.put(20, 3);
            x.step(31);
            Check.same("P7 all are confirmed so far", x.report(11) + x.report(10), 0);
            for (int gate = 0; gate < 3; gate++) {
                Check.same("P12 fails", x.sensor(gate, (fails >> gate & 1) == 1), (fails >> gate & 1) == 1);
            }
            x.step(2);
            Check.same("P8 diverted at the last gate", x.gate(2, 3), 1);
            Check.same("P7 an alarm of the last gate", x.report(11), fails >> 2);
            x.put(35, 11);
            x.step(31);
            x.put(50, 3);
            x.step(32);
            Check.same("P8 alarms of the first gate", x.gate(0, 5), fails & 1);
            Check.same("P8 alarms of the second gate", x.gate(1, 5), fails >> 1 & 1);
            Check.same("P7 alarms of all", x.report(11), Integer.bitCount(fails));
        }
    }

    /** As many vibrations, gates, settings and items as there can be, and every question about the last ones. */
    private static void allIsFull() {
        CheckWeigher x = Check.loaded("belt 1 10 20 9000;vibration 1 2 0;vibration 1 2 0;vibration 1 2 1;"
            + "vibration 1 2 1;gate under 100 0;gate over 200 0;gate unsteady 300 0;limits 1 9998;window 60;"
            + "notch on;steady 9999;least 1;drift 0 1;zero 60;confirm 99;");
        for (int i = 0; i < 60; i++) {
            x.put(9999, 1);
            x.step(1);
        }
        int[] report = {60, 1, 4, 3, 1, 9998, 60, 0, 60, 60, 0, 0};
        for (int what = 0; what < report.length; what++) {
            Check.same("P7 what " + what, x.report(what), report[what]);
        }
        Check.same("P18 ten on the table", x.sample(0), 99990);
        Check.same("P18 none at first", x.sample(59), 0);
        Check.same("P19 forty before their decision", x.count(0), 20);
        Check.same("P19 forty behind it", x.count(1), 40);
        Check.same("P20 all are disturbed", x.decided(3), 40);
        Check.same("P28 the last to the last", x.arrival(59, 2), 299);
        Check.same("P29 for the forty", x.openTicks(2), 40);
        Check.same("P30 for the first", x.opensAt(2), 300);
        Check.same("P31 the last", x.fate(59), 3);
        x.step(500);
        int[] gate = {3, 300, 0, 60, 60, 0, 0, 0, 0};
        for (int what = 0; what < gate.length; what++) {
            Check.same("P8 what " + what, x.gate(2, what), gate[what]);
        }
        int[] item = {9999, 1, 300, 3, 1, 1, 3, 2, 80, 359};
        for (int what = 0; what < item.length; what++) {
            Check.same("P15 what " + what, x.item(59, what), item[what]);
        }
        Check.same("P16 the last one's one sample", x.measured(59), 9999);
        Check.same("P24 they cancel", x.residue(60, 0), 0);
        Check.refusesElement("P21 none is good", x::meanGood);
        Check.sameDouble("P22 the first and the last", x.meanError(), 0.0);
    }
}
