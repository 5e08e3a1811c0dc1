/** The edges that the document names for the decision and what becomes of items (promises 10 and 13 to 22). */
final class DecisionEdgesTest {
    /** An item of 3 is there as a whole at the ticks 13 to 20, is decided at 21 and leaves at 60. */
    private static final String SLOW = "belt 1 10 20 60;";
    private static final String BELT = "belt 10 100 200 400;";

    public static void main(String[] args) {
        windowAgainstSamples();
        windowOfSixty();
        notchEdges();
        notchIsUsed();
        leastEdges();
        leastWithoutSetting();
        steadyEdges();
        steadyWithoutSetting();
        limitsEdges();
        limitsWithoutSetting();
        unsteadyComesFirst();
        measuredRounding();
        tareBehindTheMean();
        tareOfThisTime();
        ticksOfALength();
        arrivalAtTheDecision();
        reactionEdges();
        openForOneThatLeft();
        nothingLeftOpenByALoad();
        classesWithoutGates();
        states();
        setLimitsRanges();
        setLimitsForLaterDecisions();
        setTareRanges();
        itemRanges();
        itemFromPutToEnd();
        measuredEdges();
        countEdges();
        decidedEdges();
        meanGoodEdges();
        meanErrorEdges();
        Check.finish("DecisionEdgesTest");
    }

    /** One item, let go by up to its decision. */
    private static CheckWeigher one(String settings, int weight, int length) {
        CheckWeigher x = Check.loaded(SLOW + settings);
        x.put(weight, length);
        x.step(21);
        return x;
    }

    private static int classOf(String settings, int weight, int length) {
        return one(settings, weight, length).item(0, 6);
    }

    /** The eight samples are 13 to 20 more than the weight. */
    private static void windowAgainstSamples() {
        int[] windows = {1, 2, 7, 8, 9, 60};
        int[] due = {120, 119, 117, 116, 116, 116};
        for (int i = 0; i < windows.length; i++) {
            String settings = "drift 1 1;window " + windows[i] + ";";
            Check.same("P16 window " + windows[i], one(settings, 100, 3).measured(0), due[i]);
        }
        Check.same("P16 without the setting", one("drift 1 1;", 100, 3).measured(0), 116);
        CheckWeigher x = Check.loaded("belt 1 10 40 60;drift 1 1;");
        x.put(100, 1);
        x.step(41);
        // 30 samples, 11 to 40; the latest 20 are 21 to 40
        Check.same("P16 twenty without the setting", x.measured(0), 130);
    }

    private static void windowOfSixty() {
        CheckWeigher x = Check.loaded("belt 1 10 80 90;drift 1 1;window 60;");
        x.put(100, 1);
        x.step(81);
        // 70 samples, 11 to 80, of which 21 to 80 are kept
        Check.same("P15 sixty are kept", x.item(0, 4), 60);
        Check.same("P16 all sixty", x.measured(0), 150);
        CheckWeigher y = Check.loaded("belt 1 10 80 90;drift 1 1;window 59;");
        y.put(101, 1);
        y.step(81);
        Check.same("P16 fifty-nine", y.measured(0), 152);
    }

    private static int windowOf(String settings) {
        return Check.loaded(SLOW + settings).report(6);
    }

    private static void notchEdges() {
        String six = "vibration 1 6 0;notch on;window ";
        int[] windows = {1, 5, 6, 7, 11, 12, 13, 59, 60};
        int[] due = {1, 5, 6, 6, 6, 12, 12, 54, 60};
        for (int i = 0; i < windows.length; i++) {
            Check.same("P7 period 6, window " + windows[i], windowOf(six + windows[i] + ";"), due[i]);
        }
        String two = "vibration 1 4 0;vibration 1 10 0;notch on;window ";
        Check.same("P7 below both periods' multiple", windowOf(two + "19;"), 19);
        Check.same("P7 at it", windowOf(two + "20;"), 20);
        Check.same("P7 before the next one", windowOf(two + "39;"), 20);
        Check.same("P7 at the next one", windowOf(two + "40;"), 40);
        Check.same("P7 no multiple up to 60", windowOf("vibration 1 40 0;vibration 1 38 0;notch on;window 60;"), 60);
        Check.same("P7 the longest period", windowOf("vibration 1 40 0;notch on;window 60;"), 40);
        Check.same("P7 below the longest period", windowOf("vibration 1 40 0;notch on;window 39;"), 39);
        Check.same("P7 four periods", windowOf("vibration 1 2 0;vibration 1 4 0;vibration 1 6 0;vibration 1 8 0;"
            + "notch on;window 47;"), 24);
        Check.same("P7 no vibrations", windowOf("notch on;window 60;"), 60);
        Check.same("P7 no vibrations, 1", windowOf("notch on;window 1;"), 1);
        Check.same("P7 off", windowOf("vibration 1 6 0;notch off;window 11;"), 11);
    }

    private static void notchIsUsed() {
        String text = "vibration 50 4 0;drift 1 1;window 7;notch ";
        // the latest seven: 14 to 20, with the vibrations of -, -, +, +, -, -, +
        Check.same("P16 off", one(text + "off;", 1000, 3).measured(0), 1000 + (7 * 17 - 50) / 7);
        Check.same("P16 on: four of them", one(text + "on;", 1000, 3).measured(0), 1018);
        Check.same("P26 without notch", one(text + "on;", 1000, 3).weightWith(0, 7), 1000 + (7 * 17 - 50) / 7);
    }

    private static void leastEdges() {
        Check.same("P15 as many", classOf("least 8;", 30, 3), 1);
        Check.same("P15 one too few", classOf("least 9;", 30, 3), 3);
        Check.same("P15 the greatest", classOf("least 60;", 30, 3), 3);
        Check.same("P15 one of one", classOf("least 1;", 30, 10), 1);
        Check.same("P15 one of two", classOf("least 2;", 30, 10), 3);
        Check.same("P15 none of one", classOf("least 1;", 30, 11), 3);
        String longer = "belt 1 10 %d 99;least 60;";
        for (int end = 69; end <= 71; end++) {
            CheckWeigher x = Check.loaded(String.format(longer, end));
            x.put(30, 1);
            x.step(end + 1);
            Check.same("P15 sixty of " + (end - 10), x.item(0, 6), end < 70 ? 3 : 1);
        }
    }

    private static void leastWithoutSetting() {
        Check.same("P15 one sample", classOf("", 30, 10), 1);
        Check.same("P15 no sample", classOf("", 30, 11), 3);
        Check.same("P15 no sample, steady", classOf("steady 9999;", 30, 11), 3);
    }

    /** The spread of the eight samples is 7. */
    private static void steadyEdges() {
        Check.same("P15 as great", classOf("drift 1 1;steady 7;", 30, 3), 1);
        Check.same("P15 greater", classOf("drift 1 1;steady 6;", 30, 3), 3);
        Check.same("P15 only those of the window", classOf("drift 1 1;steady 6;window 7;", 30, 3), 1);
        Check.same("P15 one more", classOf("drift 1 1;steady 5;window 7;", 30, 3), 3);
        Check.same("P15 0 of equal ones", classOf("steady 0;", 30, 3), 1);
        Check.same("P15 0 of one", classOf("drift 99 1;steady 0;window 1;", 30, 3), 1);
        Check.same("P15 1 is not 0", classOf("drift 1 1;steady 0;window 2;", 30, 3), 3);
    }

    /** Samples of the ticks 141 to 200; the first one's vibrations are negative, the last one's positive. */
    private static void steadyWithoutSetting() {
        String text = "belt 1 100 200 400;vibration 999 40 0;vibration 999 40 0;";
        String equal = "vibration 81 40 0;drift 99 1;window 60;";
        String[] settings = {equal, equal + "steady 9999;", equal + "steady 9998;",
            "vibration 131 40 0;drift 99 1;window 59;", "vibration 130 40 0;drift 99 1;window 59;"};
        // 59 * 99 + 2 * 2079 = 9999; 58 * 99 + 2 * 2129 = 10000 and 9998
        int[] due = {2, 2, 3, 3, 2};
        for (int i = 0; i < settings.length; i++) {
            CheckWeigher x = Check.loaded(text + settings[i]);
            x.put(30, 30);
            x.step(201);
            Check.same("P15 " + settings[i], x.item(0, 6), due[i]);
        }
    }

    private static void limitsEdges() {
        String limits = "limits 50 60;";
        int[] weights = {49, 50, 51, 59, 60, 61};
        int[] due = {0, 1, 1, 1, 1, 2};
        for (int i = 0; i < weights.length; i++) {
            Check.same("P15 weight " + weights[i], classOf(limits, weights[i], 3), due[i]);
        }
        Check.same("P15 below the one weight", classOf("limits 50 50;", 49, 3), 0);
        Check.same("P15 the one weight", classOf("limits 50 50;", 50, 3), 1);
        Check.same("P15 above the one weight", classOf("limits 50 50;", 51, 3), 2);
        Check.same("P15 0 and 0", classOf("limits 0 0;", 1, 3), 2);
        Check.same("P15 9999 and 9999", classOf("limits 9999 9999;", 9998, 3), 0);
        Check.same("P15 9999 and 9999", classOf("limits 9999 9999;", 9999, 3), 1);
    }

    /** Without the setting the limits are 0 and 9999; only a tare brings a weight past them. */
    private static void limitsWithoutSetting() {
        int[] weights = {1, 1, 9999, 9999};
        int[] tares = {2, 1, 0, -1};
        int[] due = {0, 1, 1, 2};
        for (int i = 0; i < weights.length; i++) {
            CheckWeigher x = Check.loaded(SLOW);
            x.setTare(tares[i]);
            x.put(weights[i], 3);
            x.step(21);
            Check.same("P16 weight less tare", x.measured(0), weights[i] - tares[i]);
            Check.same("P15 " + (weights[i] - tares[i]), x.item(0, 6), due[i]);
        }
    }

    private static void unsteadyComesFirst() {
        Check.same("P15 under with too few", classOf("limits 50 60;least 9;", 40, 3), 3);
        Check.same("P15 over with a spread", classOf("drift 1 1;limits 50 60;steady 6;", 90, 3), 3);
        CheckWeigher x = Check.loaded("belt 1 10 20 99;limits 50 60;");
        x.put(40, 1);
        x.step(9);
        x.put(70, 3);
        x.step(40);
        Check.same("P15 under but disturbed", x.item(0, 6), 3);
        Check.same("P16 measured all the same", x.measured(0), 40);
        Check.same("P15 over and not disturbed", x.item(1, 6), 2);
    }

    /** The latest three are of the ticks 18, 19 and 20. */
    private static void measuredRounding() {
        // 1 + 10, 1 + 10, 1 - 10
        Check.same("P16 13 / 3", one("vibration 10 4 2;window 3;", 1, 3).measured(0), 4);
        // 1 + 10, 1 - 10, 1 - 10
        CheckWeigher x = one("vibration 10 4 3;window 3;", 1, 3);
        Check.same("P16 the sum", x.sampleOf(0, 5) + x.sampleOf(0, 6) + x.sampleOf(0, 7), -7);
        Check.same("P16 -7 / 3", x.measured(0), -2);
        Check.same("P15 -2 is under", x.item(0, 6), 0);
        Check.same("P26 -7 / 3", x.weightWith(0, 3), -2);
        x.setTare(1);
        Check.same("P26 rounded before the tare", x.weightWith(0, 3), -3);
    }

    /** The mean is rounded before the tare is taken off: 13 / 3 - 5, and not (13 - 3 * 5) / 3. */
    private static void tareBehindTheMean() {
        CheckWeigher x = Check.loaded(SLOW + "vibration 10 4 2;window 3;");
        x.put(1, 3);
        x.step(20);
        x.setTare(5);
        Check.same("P26 4 - 5", x.weightWith(0, 3), -1);
        x.step(1);
        Check.same("P16 4 - 5", x.measured(0), -1);
        Check.same("P15 -1 is under", x.item(0, 6), 0);
        CheckWeigher y = Check.loaded(SLOW + "vibration 10 4 3;window 3;");
        y.put(1, 3);
        y.step(20);
        y.setTare(-3);
        Check.same("P26 -2 + 3", y.weightWith(0, 3), 1);
        y.step(1);
        Check.same("P16 -2 + 3", y.measured(0), 1);
    }

    /** An item of 1 leaves the table at the tick of its decision: the tare of step 7 comes too late. */
    private static void tareOfThisTime() {
        CheckWeigher x = Check.loaded(SLOW + "zero 1;drift 1 1;window 1;");
        x.put(100, 1);
        x.step(21);
        Check.same("P16 the tare of tick 10", x.measured(0), 120 - 10);
        Check.same("P7 the tare of tick 21", x.report(7), 21);
        Check.same("P26 with the present tare", x.weightWith(0, 1), 120 - 21);
        x.step(1);
        Check.same("P26 with the next one", x.weightWith(0, 1), 120 - 22);
        Check.same("P16 it stays", x.measured(0), 110);
    }

    private static void ticksOfALength() {
        int[] lengths = {1, 9, 10, 11, 20, 21, 100, 101, 2000};
        int[] due = {1, 1, 1, 2, 2, 3, 10, 11, 200};
        for (int i = 0; i < lengths.length; i++) {
            CheckWeigher x = Check.loaded(BELT + "gate over 300 0;gate unsteady 350 0;limits 0 0;");
            x.put(50, lengths[i]);
            x.step(21);
            int gate = lengths[i] <= 100 ? 0 : 1;
            Check.same("P15 gate of length " + lengths[i], x.item(0, 7), gate);
            Check.same("P29 ticks of length " + lengths[i], x.openTicks(gate), due[i]);
            Check.same("P30 first of length " + lengths[i], x.opensAt(gate), 30 + 5 * gate);
        }
    }

    private static void arrivalAtTheDecision() {
        int[] positions = {201, 209, 210, 211, 220, 221, 399};
        int[] due = {21, 21, 21, 22, 22, 23, 40};
        for (int i = 0; i < positions.length; i++) {
            CheckWeigher x = Check.loaded(BELT + "gate over " + positions[i] + " 0;limits 0 0;");
            x.put(50, 20);
            x.step(20);
            Check.same("P10 not commanded before the decision", x.openTicks(0), 0);
            x.step(1);
            Check.same("P29 two ticks, the present one left out", x.openTicks(0), due[i] == 21 ? 1 : 2);
            Check.same("P30 the next one", x.opensAt(0), Math.max(22, due[i]));
            Check.same("P8 open at once", x.gate(0, 6), due[i] == 21 ? 1 : 0);
            x.step(30);
            Check.same("P15 diverted", x.item(0, 3), 3);
            Check.same("P15 when", x.item(0, 9), due[i]);
        }
    }

    /** The gate at 30 is reached at 30, nine ticks behind the decision, and left at 33. */
    private static void reactionEdges() {
        int[] reactions = {0, 8, 9, 10, 11, 12, 13, 50};
        int[] first = {30, 30, 30, 31, 32, 0, 0, 0};
        for (int i = 0; i < reactions.length; i++) {
            CheckWeigher x = one("gate over 30 " + reactions[i] + ";limits 0 0;", 50, 3);
            Check.same("P29 reaction " + reactions[i], x.openTicks(0), first[i] == 0 ? 0 : 33 - first[i]);
            if (first[i] == 0) {
                Check.refusesElement("P30 nothing is commanded", () -> x.opensAt(0));
            } else {
                Check.same("P30 reaction " + reactions[i], x.opensAt(0), first[i]);
            }
            Check.same("P15 it is to be diverted", x.item(0, 7), 0);
            Check.same("P31 reaction " + reactions[i], x.fate(0), first[i] == 30 ? 3 : 5);
            x.step(12);
            Check.same("P8 closed at 33", x.gate(0, 6), 0);
            x.step(30);
            Check.same("P15 reaction " + reactions[i], x.item(0, 3), first[i] == 30 ? 3 : 5);
        }
        CheckWeigher at = one("gate over 21 1;limits 0 0;", 50, 1);
        Check.same("P29 nothing for the shortest item", at.openTicks(0), 0);
        CheckWeigher next = one("gate over 21 1;limits 0 0;", 50, 2);
        Check.same("P29 one tick for a longer one", next.openTicks(0), 1);
        Check.same("P30 it is the next one", next.opensAt(0), 22);
    }

    /** A gate stays open for its item up to the last tick, also when a jam has let the item pass it and the end. */
    private static void openForOneThatLeft() {
        CheckWeigher x = Check.loaded(SLOW + "gate unsteady 50 0;");
        x.put(30, 40);
        x.jam(0, true);
        x.step(60);
        Check.same("P15 a miss", x.item(0, 3), 5);
        x.jam(0, false);
        Check.same("P8 open at 60", x.gate(0, 6), 1);
        Check.same("P29 61 to 89", x.openTicks(0), 29);
        Check.same("P30 the next one", x.opensAt(0), 61);
        x.step(29);
        Check.same("P8 open at 89", x.gate(0, 6), 1);
        x.step(1);
        Check.same("P8 closed at 90", x.gate(0, 6), 0);
    }

    /** Before the load the gate was commanded up to 69 for item 0; behind it nothing is for the new item 0. */
    private static void nothingLeftOpenByALoad() {
        CheckWeigher x = Check.loaded(SLOW + "gate unsteady 30 0;");
        x.put(30, 40);
        x.step(21);
        Check.same("P29 30 to 69", x.openTicks(0), 40);
        Check.write(x, SLOW + "gate over 30 50;limits 0 0;");
        x.load();
        x.put(50, 3);
        x.step(21);
        Check.same("P15 it is to be diverted", x.item(0, 7), 0);
        Check.same("P29 nothing is commanded", x.openTicks(0), 0);
        Check.refusesElement("P30 nothing is commanded", () -> x.opensAt(0));
        Check.same("P31 a miss", x.fate(0), 5);
        x.step(9);
        Check.same("P8 closed at 30", x.gate(0, 6), 0);
        Check.same("P15 past the gate", x.item(0, 3), 1);
    }

    private static void classesWithoutGates() {
        String gates = "gate under 30 0;gate unsteady 40 0;limits 50 60;";
        Check.same("P15 under", one(gates, 40, 3).item(0, 7), 0);
        Check.same("P15 good has never one", one(gates, 55, 3).item(0, 7), CheckWeigher.NONE);
        Check.same("P15 over has none here", one(gates, 70, 3).item(0, 7), CheckWeigher.NONE);
        Check.same("P15 unsteady", one(gates, 40, 11).item(0, 7), 1);
        CheckWeigher x = one(gates, 70, 3);
        x.step(39);
        Check.same("P15 over passes as it should", x.item(0, 3), 2);
        CheckWeigher y = one("limits 50 60;", 40, 3);
        y.step(39);
        Check.same("P15 without gates under passes too", y.item(0, 3), 2);
    }

    private static void states() {
        CheckWeigher x = Check.loaded(SLOW + "gate over 30 0;limits 0 35;");
        x.put(30, 3);
        Check.same("state 0 when put", x.item(0, 3), 0);
        x.step(20);
        Check.same("state 0 on the table", x.item(0, 3), 0);
        x.step(1);
        Check.same("state 1 behind the table", x.item(0, 3), 1);
        x.step(38);
        Check.same("state 1 up to the end", x.item(0, 3), 1);
        x.step(1);
        Check.same("state 2", x.item(0, 3), 2);
        x.put(40, 3);
        x.step(30);
        Check.same("state 3", x.item(1, 3), 3);
        x.put(40, 3);
        x.jam(0, true);
        x.step(60);
        Check.same("state 5", x.item(2, 3), 5);
        CheckWeigher y = Check.loaded("belt 1 10 20 99;gate unsteady 30 0;gate over 40 0;limits 0 35;");
        y.put(30, 40);
        y.step(30);
        y.put(40, 3);
        y.step(30);
        Check.same("state 4 at a gate before its own", y.item(1, 3), 4);
        Check.same("P15 its own gate", y.item(1, 7), 1);
        Check.same("P8 the gate counts it", y.gate(0, 3), 2);
        Check.same("P8 its own gate does not", y.gate(1, 3), 0);
    }

    private static void setLimitsRanges() {
        CheckWeigher x = Check.loaded(SLOW + "limits 50 60;");
        int[] wrong = {-1, 10000, Integer.MIN_VALUE, Integer.MAX_VALUE};
        for (int one : wrong) {
            Check.refusesArgument("P13 low " + one, () -> x.setLimits(one, 9999));
            Check.refusesArgument("P13 high " + one, () -> x.setLimits(0, one));
            Check.refusesArgument("P13 both " + one, () -> x.setLimits(one, one));
        }
        Check.refusesArgument("P13 high below low", () -> x.setLimits(1, 0));
        Check.refusesArgument("P13 high below low", () -> x.setLimits(9999, 9998));
        Check.same("P13 nothing changed", x.report(4) * 100 + x.report(5), 5060);
        x.setLimits(0, 0);
        Check.same("P13 the least", x.report(4) + x.report(5), 0);
        x.setLimits(0, 9999);
        Check.same("P13 all", x.report(5) - x.report(4), 9999);
        x.setLimits(9999, 9999);
        Check.same("P13 the greatest", x.report(4) + x.report(5), 2 * 9999);
        x.setLimits(7, 7);
        Check.same("P13 equal ones", x.report(4) * 100 + x.report(5), 707);
        x.setLimits(7, 8);
        Check.same("P13 one more", x.report(4) * 100 + x.report(5), 708);
    }

    private static void setLimitsForLaterDecisions() {
        CheckWeigher x = Check.loaded(SLOW);
        x.put(30, 3);
        x.step(20);
        x.setLimits(31, 40);
        x.step(1);
        Check.same("P13 before the decision", x.item(0, 6), 0);
        x.setLimits(0, 29);
        x.step(1);
        Check.same("P13 behind it", x.item(0, 6), 0);
        Check.same("P20 it stays under", x.decided(0), 1);
        CheckWeigher y = Check.loaded(SLOW);
        y.put(30, 3);
        y.step(21);
        y.setLimits(31, 40);
        Check.same("P13 decided before", y.item(0, 6), 1);
        Check.write(y, SLOW);
        y.load();
        Check.same("P4 the text's limits again", y.report(5) - y.report(4), 9999);
    }

    private static void setTareRanges() {
        CheckWeigher x = Check.loaded(SLOW);
        int[] wrong = {-10000, 10000, Integer.MIN_VALUE, Integer.MAX_VALUE};
        for (int tare : wrong) {
            Check.refusesArgument("P14 " + tare, () -> x.setTare(tare));
        }
        Check.same("P14 nothing changed", x.report(7), 0);
        Check.same("P14 from 0", x.setTare(9999), 0);
        Check.same("P14 the greatest", x.report(7), 9999);
        Check.same("P14 from the greatest", x.setTare(-9999), 9999);
        Check.same("P14 the least", x.report(7), -9999);
        Check.refusesArgument("P14 -10000", () -> x.setTare(-10000));
        Check.same("P14 from the least", x.setTare(0), -9999);
        // a tare that the table sets may stand beyond the range
        CheckWeigher y = Check.loaded(SLOW + "zero 1;drift 99 1;");
        y.step(102);
        Check.same("P14 the previous tare", y.setTare(1), 99 * 102);
        Check.same("P14 from 1", y.setTare(2), 1);
    }

    private static void itemRanges() {
        CheckWeigher x = Check.loaded(SLOW);
        int[] none = {-1, 0, 1, Integer.MIN_VALUE, Integer.MAX_VALUE};
        for (int item : none) {
            Check.refusesIndex("P15 item " + item, () -> x.item(item, 0));
            Check.refusesIndex("P15 item and what", () -> x.item(item, 10));
            Check.refusesIndex("P16 item " + item, () -> x.measured(item));
            Check.refusesIndex("P17 item " + item, () -> x.sampleOf(item, 0));
        }
        x.put(30, 3);
        Check.same("P15 item 0", x.item(0, 0), 30);
        Check.refusesIndex("P15 item 1", () -> x.item(1, 0));
        int[] wrong = {-1, 10, Integer.MIN_VALUE, Integer.MAX_VALUE};
        for (int what : wrong) {
            Check.refusesArgument("P15 what " + what, () -> x.item(0, what));
        }
        Check.same("P15 what 0", x.item(0, 0), 30);
        Check.same("P15 what 9", x.item(0, 9), CheckWeigher.NONE);
    }

    private static void same(CheckWeigher x, String when, int... due) {
        for (int what = 0; what < due.length; what++) {
            Check.same("P15 " + when + ", what " + what, x.item(0, what), due[what]);
        }
    }

    private static void itemFromPutToEnd() {
        CheckWeigher x = Check.loaded(SLOW + "gate over 30 10;limits 0 0;");
        x.put(30, 3);
        same(x, "when put", 30, 3, 0, 0, 0, 0, -1, -1, -1, -1);
        x.step(20);
        same(x, "before the decision", 30, 3, 20, 0, 8, 0, -1, -1, -1, -1);
        x.step(1);
        same(x, "at the decision", 30, 3, 21, 1, 8, 0, 2, 0, 21, -1);
        x.step(38);
        same(x, "before the end", 30, 3, 59, 1, 8, 0, 2, 0, 21, -1);
        x.step(1);
        same(x, "at the end", 30, 3, 60, 5, 8, 0, 2, 0, 21, 60);
        x.step(100);
        same(x, "long after", 30, 3, 60, 5, 8, 0, 2, 0, 21, 60);
    }

    private static void measuredEdges() {
        CheckWeigher x = Check.loaded(SLOW);
        x.put(30, 10);
        Check.refusesElement("P16 no decision, no samples", () -> x.measured(0));
        x.step(20);
        Check.refusesElement("P16 a sample, no decision", () -> x.measured(0));
        x.step(1);
        Check.same("P16 a decision and a sample", x.measured(0), 30);
        x.step(200);
        Check.same("P16 off the belt too", x.measured(0), 30);
        x.put(30, 11);
        x.step(21);
        Check.same("P15 a decision", x.item(1, 3), 1);
        Check.refusesElement("P16 a decision, no samples", () -> x.measured(1));
        Check.refusesIndex("P16 no item", () -> x.measured(2));
    }

    private static void countEdges() {
        CheckWeigher x = Check.loaded(SLOW);
        int[] wrong = {-1, 6, Integer.MIN_VALUE, Integer.MAX_VALUE};
        for (int state : wrong) {
            Check.refusesArgument("P19 state " + state, () -> x.count(state));
        }
        for (int state = 0; state <= 5; state++) {
            Check.same("P19 none", x.count(state), 0);
        }
        x.put(30, 3);
        Check.same("P19 state 0", x.count(0), 1);
        x.step(21);
        Check.same("P19 no more in state 0", x.count(0), 0);
        Check.same("P19 state 1", x.count(1), 1);
        CheckWeigher full = Check.loaded("belt 1 10 20 9000;gate unsteady 21 0;");
        for (int i = 0; i < 60; i++) {
            full.put(30, 1);
            full.step(1);
        }
        full.step(30);
        // each is disturbed by its neighbours, and so unsteady
        int sum = 0;
        for (int state = 0; state <= 5; state++) {
            sum += full.count(state);
        }
        Check.same("P19 sixty in all", sum, 60);
        Check.same("P19 all of them are diverted", full.count(3), 60);
    }

    private static void decidedEdges() {
        CheckWeigher x = Check.loaded(SLOW + "limits 30 40;");
        int[] wrong = {-1, 4, Integer.MIN_VALUE, Integer.MAX_VALUE};
        for (int kind : wrong) {
            Check.refusesArgument("P20 kind " + kind, () -> x.decided(kind));
        }
        int[] weights = {29, 30, 40, 41, 30};
        int[] lengths = {3, 3, 3, 3, 11};
        for (int i = 0; i < 5; i++) {
            x.put(weights[i], lengths[i]);
            x.step(20);
            Check.same("P20 without a decision it is not counted",
                x.decided(0) + x.decided(1) + x.decided(2) + x.decided(3), i);
            x.step(20);
        }
        int[] due = {1, 2, 1, 1};
        for (int kind = 0; kind <= 3; kind++) {
            Check.same("P20 kind " + kind, x.decided(kind), due[kind]);
        }
        x.step(200);
        Check.same("P20 off the belt too", x.decided(1), 2);
    }

    private static void meanGoodEdges() {
        CheckWeigher x = Check.loaded(SLOW + "limits 30 40;");
        Check.refusesElement("P21 no items", x::meanGood);
        x.put(29, 3);
        x.step(21);
        Check.refusesElement("P21 only one that is under", x::meanGood);
        x.put(41, 3);
        x.step(21);
        Check.refusesElement("P21 only under and over", x::meanGood);
        x.put(35, 11);
        x.step(21);
        Check.refusesElement("P21 and an unsteady one", x::meanGood);
        x.put(30, 3);
        x.step(20);
        Check.refusesElement("P21 one without a decision", x::meanGood);
        x.step(1);
        Check.sameDouble("P21 one", x.meanGood(), 30.0);
        x.put(31, 3);
        x.step(21);
        Check.sameDouble("P21 two", x.meanGood(), 30.5);
        x.put(40, 3);
        x.step(21);
        Check.sameDouble("P21 three", x.meanGood(), 101.0 / 3.0);
    }

    private static void meanErrorEdges() {
        CheckWeigher x = Check.loaded(SLOW + "limits 30 40;least 8;");
        Check.refusesElement("P22 no items", x::meanError);
        x.put(35, 11);
        x.step(21);
        Check.refusesElement("P22 no measured weight", x::meanError);
        x.put(35, 3);
        x.step(20);
        Check.refusesElement("P22 samples without a decision", x::meanError);
        x.setTare(4);
        x.step(1);
        Check.sameDouble("P22 one, -4", x.meanError(), 4.0);
        x.setTare(-3);
        x.put(20, 4);
        x.step(21);
        Check.same("P15 too few samples", x.item(2, 6), 3);
        Check.sameDouble("P22 an unsteady one too, 3", x.meanError(), 3.5);
        x.setTare(0);
        x.put(90, 3);
        x.step(21);
        Check.sameDouble("P22 and an exact one", x.meanError(), 7.0 / 3.0);
    }
}
