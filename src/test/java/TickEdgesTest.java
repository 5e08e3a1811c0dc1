/** The edges that the document names for the belt and a tick (promises 9 to 14 as far as they step). */
final class TickEdgesTest {
    private static final String BELT = "belt 10 100 200 400;";
    /** One millimetre a tick, so that every edge is met exactly. */
    private static final String SLOW = "belt 1 10 20 60;";
    private static final String FREE = "belt 1 10 20 100;";

    public static void main(String[] args) {
        putRanges();
        putBehindTheRear();
        putBehindAnItemOffTheBelt();
        putSixty();
        sixtySinceLoading();
        stepRanges();
        lastTime();
        lastTimeInOneStep();
        decisionsInTheseTicks();
        frontWhenPut();
        onTheTableInPart();
        lengthOnTheTable();
        longerThanTheTable();
        onTheTableAsAWhole();
        asLongAsTheTable();
        disturbedByTheNext();
        disturbedByTheOneBefore();
        notDisturbedByOneThatLeft();
        disturbedAtTheTickInWhichTheOtherLeaves();
        latestSixtySamples();
        decisionBehindTheEnd();
        endOfTheBelt();
        pastTheEndOfTheBelt();
        comesToAGate();
        gateNextToTheEnds();
        severalGatesAtOneTick();
        gateThatOpensLater();
        lastTickOfAGate();
        jamAtTheTick();
        drift();
        vibrationInTheSample();
        zeroOff();
        zeroOne();
        zeroOfSeveralTicks();
        zeroSixty();
        zeroBehindAnItem();
        zeroSinceLoading();
        zeroRoundsToNought();
        zeroReplacesAnyTare();
        confirmEdges();
        jamBehindTheDiversion();
        sensorAtTheTick();
        confirmationsOfOneTick();
        jamAndSensorChanges();
        Check.finish("TickEdgesTest");
    }

    private static void putRanges() {
        CheckWeigher x = new CheckWeigher();
        int[] weights = {0, -1, 10000, Integer.MIN_VALUE, Integer.MAX_VALUE};
        int[] lengths = {0, -1, 2001, Integer.MIN_VALUE, Integer.MAX_VALUE};
        for (int i = 0; i < 5; i++) {
            int weight = weights[i];
            int length = lengths[i];
            Check.refusesArgument("P9 weight " + weight, () -> x.put(weight, 10));
            Check.refusesArgument("P9 length " + length, () -> x.put(10, length));
            Check.refusesArgument("P9 both", () -> x.put(weight, length));
        }
        Check.same("P9 nothing was put", x.report(8), 0);
        Check.same("P9 least weight, greatest length", x.put(1, 2000), 0);
        Check.same("P9 weight", x.item(0, 0), 1);
        Check.same("P9 length", x.item(0, 1), 2000);
        CheckWeigher y = new CheckWeigher();
        Check.same("P9 greatest weight, least length", y.put(9999, 1), 0);
        Check.same("P9 weight", y.item(0, 0), 9999);
        Check.same("P9 length", y.item(0, 1), 1);
    }

    private static void putBehindTheRear() {
        CheckWeigher x = Check.loaded(SLOW);
        x.put(5, 3);
        Check.refusesState("P9 rear -3", () -> x.put(6, 1));
        x.step(2);
        Check.refusesState("P9 rear -1", () -> x.put(6, 1));
        Check.refusesArgument("P9 the argument comes first", () -> x.put(0, 1));
        Check.same("P9 no item more", x.report(8), 1);
        x.step(1);
        Check.same("P9 rear 0", x.put(6, 1), 1);
        Check.refusesState("P9 only the item before it counts", () -> x.put(6, 1));
        x.step(1);
        Check.same("P9 rear 0 again", x.put(6, 1), 2);
    }

    private static void putBehindAnItemOffTheBelt() {
        CheckWeigher x = Check.loaded(SLOW);
        x.put(5, 2000);
        x.step(59);
        Check.refusesState("P9 on the belt with its rear at -1941", () -> x.put(6, 1));
        x.step(1);
        Check.same("P9 passed to the end, its rear at -1940", x.put(6, 1), 1);
        CheckWeigher y = Check.loaded(SLOW + "gate unsteady 30 0;");
        y.put(5, 2000);
        y.step(29);
        Check.refusesState("P9 not yet diverted", () -> y.put(6, 1));
        y.step(1);
        Check.same("P9 diverted", y.item(0, 3), 3);
        Check.same("P9 behind the diverted one", y.put(6, 1), 1);
    }

    private static void putSixty() {
        CheckWeigher x = Check.loaded("belt 1 10 20 100;");
        for (int i = 0; i < 60; i++) {
            Check.same("P9 number", x.put(5, 1), i);
            x.step(1);
        }
        Check.refusesState("P9 the 61st", () -> x.put(5, 1));
        Check.refusesArgument("P9 the 61st with length 0", () -> x.put(5, 0));
        Check.same("P7 60 items", x.report(8), 60);
        Check.same("P7 60 on the belt", x.report(9), 60);
        Check.refusesIndex("P15 no item 60", () -> x.item(60, 0));
        Check.same("P15 item 59", x.item(59, 2), 1);
        x.step(200);
        Check.same("P7 the belt is empty", x.report(9), 0);
        Check.refusesState("P9 the 61st on an empty belt", () -> x.put(5, 1));
    }

    private static void sixtySinceLoading() {
        CheckWeigher x = new CheckWeigher();
        for (int i = 0; i < 60; i++) {
            x.put(5, 10);
            x.step(1);
        }
        Check.write(x, "belt 0");
        Check.refusesArgument("P4 wrong", x::load);
        Check.refusesState("P9 a refused load gives no room", () -> x.put(5, 10));
        Check.write(x, SLOW);
        x.load();
        for (int i = 0; i < 60; i++) {
            Check.same("P9 number since loading", x.put(5, 1), i);
            x.step(1);
        }
        Check.refusesState("P9 the 61st since loading", () -> x.put(5, 1));
    }

    private static void stepRanges() {
        CheckWeigher x = Check.loaded(SLOW);
        x.put(5, 3);
        int[] wrong = {0, -1, 501, Integer.MIN_VALUE, Integer.MAX_VALUE};
        for (int ticks : wrong) {
            Check.refusesArgument("P10 " + ticks, () -> x.step(ticks));
        }
        Check.same("P10 no time went by", x.report(0), 0);
        Check.same("P10 nothing moved", x.item(0, 2), 0);
        x.step(1);
        Check.same("P10 1 tick", x.report(0), 1);
        Check.same("P10 it moved", x.item(0, 2), 1);
        x.step(500);
        Check.same("P10 500 ticks", x.report(0), 501);
    }

    private static void lastTime() {
        CheckWeigher x = Check.loaded(SLOW);
        Check.stepTo(x, 19999);
        x.put(5, 3);
        Check.refusesState("P10 20001", () -> x.step(2));
        Check.refusesState("P10 20499", () -> x.step(500));
        Check.refusesArgument("P10 501 at 19999", () -> x.step(501));
        Check.same("P10 time stays", x.report(0), 19999);
        Check.same("P10 the item stays", x.item(0, 2), 0);
        Check.same("P10 20000", x.step(1), 0);
        Check.same("P10 time", x.report(0), 20000);
        Check.same("P10 the item moved", x.item(0, 2), 1);
        Check.refusesState("P10 1 at 20000", () -> x.step(1));
        Check.refusesArgument("P10 0 at 20000", () -> x.step(0));
        Check.refusesArgument("P10 501 at 20000", () -> x.step(501));
        Check.same("P10 time stays", x.report(0), 20000);
        Check.write(x, SLOW);
        x.load();
        Check.same("P4 time 0", x.report(0), 0);
        x.step(500);
        Check.same("P10 it goes on", x.report(0), 500);
    }

    private static void lastTimeInOneStep() {
        CheckWeigher x = Check.loaded(SLOW);
        Check.stepTo(x, 19500);
        x.step(500);
        Check.same("P10 500 more at 19500", x.report(0), 20000);
        CheckWeigher y = Check.loaded(SLOW);
        Check.stepTo(y, 19501);
        Check.refusesState("P10 500 more at 19501", () -> y.step(500));
        Check.same("P10 not even in part", y.report(0), 19501);
        y.step(499);
        Check.same("P10 499 more", y.report(0), 20000);
    }

    private static void decisionsInTheseTicks() {
        CheckWeigher x = Check.loaded(SLOW);
        Check.same("P10 empty belt", x.step(5), 0);
        x.put(5, 1);
        x.step(1);
        x.put(5, 1);
        Check.same("P10 before the first", x.step(19), 0);
        Check.same("P10 the first", x.step(1), 1);
        Check.same("P10 the second", x.step(1), 1);
        Check.same("P10 none is decided twice", x.step(100), 0);
        CheckWeigher y = Check.loaded(SLOW);
        for (int i = 0; i < 30; i++) {
            y.put(5, 1);
            y.step(1);
        }
        Check.same("P10 ten so far", y.decided(3) + y.decided(1), 10);
        Check.same("P10 all the others", y.step(500), 20);
    }

    private static void frontWhenPut() {
        CheckWeigher x = Check.loaded(SLOW);
        x.step(7);
        x.put(5, 3);
        Check.same("P9 its front is at 0", x.item(0, 2), 0);
        Check.same("P9 it has no state but 0", x.item(0, 3), 0);
        x.step(1);
        Check.same("P10 by the speed", x.item(0, 2), 1);
        CheckWeigher fast = Check.loaded("belt 100 2000 4000 9000;");
        fast.put(5, 3);
        fast.step(3);
        Check.same("P10 by the greatest speed", fast.item(0, 2), 300);
    }

    /** With zero 1 and drift 1 1 the tare is the latest tick with nothing on the table. */
    private static void onTheTableInPart() {
        CheckWeigher x = Check.loaded(SLOW + "zero 1;drift 1 1;");
        x.put(30, 3);
        x.step(10);
        Check.same("the front at the beginning", x.report(7), 10);
        x.step(1);
        Check.same("the front behind it", x.report(7), 10);
        x.step(11);
        Check.same("the rear before the end", x.report(7), 10);
        x.step(1);
        Check.same("the rear at the end", x.report(7), 23);
        CheckWeigher y = Check.loaded("belt 10 101 199 400;zero 1;drift 1 1;");
        y.put(30, 11);
        y.step(11);
        Check.same("the front at 110", y.report(7), 10);
        y.step(10);
        Check.same("the rear at 199", y.report(7), 21);
    }

    private static void lengthOnTheTable() {
        CheckWeigher x = Check.loaded(SLOW);
        x.put(31, 3);
        int[] due = {0, 10, 20, 31, 31, 31, 31, 31, 31, 31, 31, 20, 10, 0};
        x.step(9);
        for (int i = 0; i < due.length; i++) {
            x.step(1);
            Check.same("P18 the front at " + (10 + i), x.sample(0), due[i]);
        }
        CheckWeigher y = Check.loaded(SLOW);
        y.put(1, 3);
        y.step(12);
        Check.same("P18 rounded toward 0", y.sample(0), 0);
        y.step(1);
        Check.same("P18 the whole", y.sample(0), 1);
        CheckWeigher z = Check.loaded("belt 1 1 2001 9000;");
        z.put(9999, 2000);
        z.step(2);
        Check.same("P18 1 mm of 2000", z.sample(0), 4);
        Check.stepTo(z, 2000);
        Check.same("P18 1999 mm of 2000", z.sample(0), 9994);
        z.step(1);
        Check.same("P18 2000 mm of 2000", z.sample(0), 9999);
        z.step(1);
        Check.same("P18 1999 mm of 2000", z.sample(0), 9994);
    }

    private static void longerThanTheTable() {
        CheckWeigher x = Check.loaded(SLOW);
        x.put(30, 15);
        int[] due = {16, 18, 20, 20, 20, 20, 20, 20, 18, 16};
        x.step(17);
        for (int i = 0; i < due.length; i++) {
            x.step(1);
            Check.same("P18 the long one's front at " + (18 + i), x.sample(0), due[i]);
        }
        Check.same("P15 never as a whole", x.item(0, 4) + x.item(0, 5), 0);
    }

    private static void onTheTableAsAWhole() {
        CheckWeigher x = Check.loaded(SLOW);
        x.put(30, 3);
        x.step(12);
        Check.same("P15 the rear before the beginning", x.item(0, 4), 0);
        x.step(1);
        Check.same("P15 the rear at the beginning", x.item(0, 4), 1);
        x.step(6);
        Check.same("P15 the front before the end", x.item(0, 4), 7);
        x.step(1);
        Check.same("P15 the front at the end", x.item(0, 4), 8);
        x.step(1);
        Check.same("P15 the front behind the end", x.item(0, 4), 8);
        Check.same("P27 as many", x.samplesFor(3), 8);
    }

    private static void asLongAsTheTable() {
        CheckWeigher x = Check.loaded(SLOW);
        x.put(30, 10);
        x.step(19);
        Check.same("P15 not yet", x.item(0, 4), 0);
        x.step(1);
        Check.same("P15 once", x.item(0, 4), 1);
        x.step(1);
        Check.same("P15 not again", x.item(0, 4), 1);
        Check.same("P16 one sample is enough", x.measured(0), 30);
        CheckWeigher y = Check.loaded(SLOW);
        y.put(30, 11);
        y.step(21);
        Check.same("P15 never", y.item(0, 4), 0);
        Check.same("P15 not disturbed either", y.item(0, 5), 0);
        CheckWeigher z = Check.loaded("belt 1 10 11 60;");
        z.put(30, 1);
        z.step(11);
        Check.same("P15 the shortest table", z.item(0, 4), 1);
    }

    private static CheckWeigher two(String text, int first, int apart, int second) {
        CheckWeigher x = Check.loaded(text);
        x.put(30, first);
        x.step(apart);
        x.put(40, second);
        x.step(50);
        return x;
    }

    /** The first is there as a whole up to its front at 20; the second is there in part from its front at 11. */
    private static void disturbedByTheNext() {
        CheckWeigher at = two(FREE, 1, 10, 3);
        Check.same("P15 the next one's front at 10", at.item(0, 5), 0);
        Check.same("P15 all its samples", at.item(0, 4), 10);
        CheckWeigher in = two(FREE, 1, 9, 3);
        Check.same("P15 the next one's front at 11", in.item(0, 5), 1);
        Check.same("P15 one sample less", in.item(0, 4), 9);
        Check.same("P15 the next is as a whole later", in.item(1, 5), 0);
        Check.same("P15 disturbed is unsteady", in.item(0, 6), 3);
    }

    /** The second is there as a whole from its front at 11 on; the first, 5 long, in part up to its front at 24. */
    private static void disturbedByTheOneBefore() {
        CheckWeigher at = two(FREE, 5, 14, 1);
        Check.same("P15 the rear of the one before at 20", at.item(1, 5), 0);
        Check.same("P15 all its samples", at.item(1, 4), 10);
        CheckWeigher in = two(FREE, 5, 13, 1);
        Check.same("P15 the rear of the one before at 19", in.item(1, 5), 1);
        Check.same("P15 one sample less", in.item(1, 4), 9);
        Check.same("P15 the one before has left the table as a whole", in.item(0, 5), 0);
    }

    /** Without the gate the first, 40 long, is there in part up to its front at 59. */
    private static void notDisturbedByOneThatLeft() {
        CheckWeigher x = Check.loaded(FREE + "gate unsteady 40 0;");
        x.put(30, 40);
        x.step(40);
        Check.same("P15 diverted", x.item(0, 3), 3);
        x.put(40, 3);
        x.step(13);
        Check.same("P15 one that was diverted is not on the table", x.item(1, 4), 1);
        Check.same("P15 one that was diverted does not disturb", x.item(1, 5), 0);
        CheckWeigher y = Check.loaded("belt 1 10 20 40;");
        y.put(30, 40);
        y.step(40);
        y.put(40, 3);
        y.step(13);
        Check.same("P15 one that passed does not disturb", y.item(1, 5), 0);
        Check.same("P18 nor does it weigh", y.sample(0), 40);
    }

    /** The first leaves in steps 5 and 6, behind the samples of step 3. */
    private static void disturbedAtTheTickInWhichTheOtherLeaves() {
        CheckWeigher x = Check.loaded("belt 1 10 20 21;");
        x.put(30, 5);
        x.step(10);
        x.put(40, 1);
        x.step(11);
        Check.same("P15 the first leaves at 21", x.item(0, 9), 21);
        Check.same("P15 the second's front at 11", x.item(1, 2), 11);
        Check.same("P15 it is disturbed", x.item(1, 5), 1);
        CheckWeigher y = Check.loaded("belt 1 10 20 99;gate over 21 0;limits 0 0;");
        y.put(30, 5);
        y.step(11);
        y.put(40, 1);
        y.step(10);
        Check.same("P15 the first is diverted at 21", y.item(0, 3), 3);
        y.step(1);
        Check.same("P15 the second comes as a whole at 22", y.item(1, 4), 1);
        Check.same("P15 it is not disturbed", y.item(1, 5), 0);
    }

    private static void latestSixtySamples() {
        CheckWeigher x = Check.loaded("belt 1 10 100 200;drift 1 1;");
        x.put(500, 1);
        x.step(69);
        Check.same("P15 59", x.item(0, 4), 59);
        Check.same("P17 the first", x.sampleOf(0, 0), 511);
        Check.refusesIndex("P17 not yet 60", () -> x.sampleOf(0, 59));
        x.step(1);
        Check.same("P15 60", x.item(0, 4), 60);
        Check.same("P17 still the first", x.sampleOf(0, 0), 511);
        Check.same("P17 the 60th", x.sampleOf(0, 59), 570);
        x.step(1);
        Check.same("P15 60 again", x.item(0, 4), 60);
        Check.same("P17 the second", x.sampleOf(0, 0), 512);
        Check.same("P17 the 61st", x.sampleOf(0, 59), 571);
        Check.refusesIndex("P17 no 61st", () -> x.sampleOf(0, 60));
        x.step(29);
        Check.same("P17 the last sixty", x.sampleOf(0, 0), 541);
        Check.same("P17 the last one", x.sampleOf(0, 59), 600);
        x.step(50);
        Check.same("P17 they stay", x.sampleOf(0, 0), 541);
    }

    private static void decisionBehindTheEnd() {
        CheckWeigher x = Check.loaded(SLOW);
        x.put(30, 3);
        x.step(20);
        Check.same("P15 no decision with the front at the end", x.item(0, 3), 0);
        Check.same("P15 no tick of it", x.item(0, 8), CheckWeigher.NONE);
        Check.same("P10 the decision", x.step(1), 1);
        Check.same("P15 state 1", x.item(0, 3), 1);
        Check.same("P15 its tick", x.item(0, 8), 21);
        CheckWeigher y = Check.loaded("belt 10 101 199 400;");
        y.put(30, 3);
        y.step(19);
        Check.same("P15 the front at 190", y.item(0, 3), 0);
        y.step(1);
        Check.same("P15 the front past the end", y.item(0, 3), 1);
    }

    private static void endOfTheBelt() {
        CheckWeigher x = Check.loaded(SLOW);
        x.put(30, 3);
        x.step(59);
        Check.same("P15 before the end", x.item(0, 3), 1);
        Check.same("P15 on the belt", x.item(0, 9), CheckWeigher.NONE);
        Check.same("P7 on the belt", x.report(9), 1);
        x.step(1);
        Check.same("P15 at the end", x.item(0, 3), 2);
        Check.same("P15 it left", x.item(0, 9), 60);
        Check.same("P7 the belt is empty", x.report(9), 0);
        x.step(5);
        Check.same("P15 it does not ride on", x.item(0, 2), 60);
        Check.same("P15 it left once", x.item(0, 9), 60);
        CheckWeigher y = Check.loaded("belt 1 10 20 21;");
        y.put(30, 3);
        y.step(20);
        Check.same("P15 neither decided nor off", y.item(0, 3), 0);
        Check.same("P15 decided and off in one tick", y.step(1), 1);
        Check.same("P15 passed", y.item(0, 3), 2);
    }

    /** Speed 7: the end at 60 is passed with the front at 63. */
    private static void pastTheEndOfTheBelt() {
        CheckWeigher x = Check.loaded("belt 7 10 20 60;");
        x.put(30, 3);
        x.step(8);
        Check.same("P15 at 56", x.item(0, 3), 1);
        Check.same("P15 off at 63", x.step(1) + x.item(0, 3), 2);
        Check.same("P15 its front when it left", x.item(0, 2), 63);
        x.step(1);
        Check.same("P15 it stays there", x.item(0, 2), 63);
    }

    private static void comesToAGate() {
        CheckWeigher x = Check.loaded(SLOW + "gate over 30 0;limits 0 0;");
        x.put(30, 3);
        x.step(29);
        Check.same("P15 before the gate", x.item(0, 3), 1);
        x.step(1);
        Check.same("P15 at the gate", x.item(0, 3), 3);
        Check.same("P15 where", x.item(0, 2), 30);
        Check.same("P15 when", x.item(0, 9), 30);
        CheckWeigher y = Check.loaded("belt 7 10 20 60;gate over 29 0;limits 0 0;");
        y.put(30, 3);
        y.step(4);
        Check.same("P15 at 28", y.item(0, 3), 1);
        y.step(1);
        Check.same("P15 past 29", y.item(0, 3), 3);
        Check.same("P15 where", y.item(0, 2), 35);
    }

    private static void gateNextToTheEnds() {
        CheckWeigher x = Check.loaded(SLOW + "gate over 21 0;gate unsteady 59 0;limits 0 0;");
        x.put(30, 3);
        x.step(21);
        Check.same("P15 diverted at its decision", x.item(0, 3), 3);
        Check.same("P15 when", x.item(0, 9), 21);
        x.put(30, 11);
        x.step(58);
        Check.same("P15 before the last gate", x.item(1, 3), 1);
        x.step(1);
        Check.same("P15 at the last gate", x.item(1, 3), 3);
        CheckWeigher y = Check.loaded("belt 50 10 20 60;gate over 22 0;gate unsteady 59 0;limits 0 0;");
        y.put(30, 3);
        Check.same("P10 decided", y.step(1), 1);
        Check.same("P15 without samples unsteady", y.item(0, 6), 3);
        Check.same("P15 past the first, before the second", y.item(0, 3), 1);
        y.step(1);
        Check.same("P15 at the second and at the end in one tick", y.item(0, 3), 3);
    }

    /** A long unsteady item keeps the first gate open from 7 to 16; the next one comes to both at 14. */
    private static void severalGatesAtOneTick() {
        for (int jammed = -1; jammed <= 1; jammed++) {
            CheckWeigher x = Check.loaded("belt 20 10 100 140;gate unsteady 131 0;gate over 139 0;limits 0 35;");
            x.put(30, 200);
            x.step(7);
            Check.same("P15 the long one is diverted", x.item(0, 3), 3);
            x.put(40, 10);
            x.step(6);
            Check.same("P15 it belongs to the second gate", x.item(1, 7), 1);
            if (jammed >= 0) {
                x.jam(jammed, true);
            }
            x.step(1);
            Check.same("P8 the first gate is met first", x.gate(0, 3), jammed == 0 ? 1 : 2);
            Check.same("P8 the second one only behind it", x.gate(1, 3), jammed == 0 ? 1 : 0);
            Check.same("P15 state", x.item(1, 3), jammed == 0 ? 3 : 4);
        }
        CheckWeigher y = Check.loaded("belt 20 10 100 140;gate unsteady 131 0;gate over 139 0;limits 0 35;");
        y.jam(1, true);
        y.put(40, 10);
        y.step(7);
        Check.same("P15 past both closed gates and the end", y.item(0, 3), 5);
        Check.same("P15 when", y.item(0, 9), 7);
    }

    /** It comes to the gate at 30; a gate that opens at 31 does not take it. */
    private static void gateThatOpensLater() {
        CheckWeigher x = Check.loaded(SLOW + "gate over 30 9;limits 0 0;");
        x.put(30, 3);
        x.step(30);
        Check.same("P15 open from 30 on", x.item(0, 3), 3);
        CheckWeigher y = Check.loaded(SLOW + "gate over 30 10;limits 0 0;");
        y.put(30, 3);
        y.step(30);
        Check.same("P8 closed at 30", y.gate(0, 6), 0);
        y.step(1);
        Check.same("P8 open at 31", y.gate(0, 6), 1);
        Check.same("P15 past it at 31", y.item(0, 3), 1);
        y.step(29);
        Check.same("P15 a miss", y.item(0, 3), 5);
        Check.same("P8 it diverted none", y.gate(0, 3), 0);
    }

    /** A gate that is open for an item of 40 from 30 up to 69. */
    private static void lastTickOfAGate() {
        for (int put = 38; put <= 40; put++) {
            CheckWeigher x = Check.loaded(FREE + "gate unsteady 30 0;");
            x.put(30, 40);
            x.step(put);
            x.put(40, 3);
            x.step(30);
            Check.same("P8 open at " + (put + 30), x.gate(0, 6), put < 40 ? 1 : 0);
            Check.same("P15 a false reject up to 69", x.item(1, 3), put < 40 ? 4 : 1);
            x.step(70);
            Check.same("P19 false rejects", x.count(4), put < 40 ? 1 : 0);
            Check.same("P19 passed", x.count(2), put < 40 ? 0 : 1);
        }
    }

    private static void jamAtTheTick() {
        CheckWeigher x = Check.loaded(SLOW + "gate over 30 0;limits 0 0;");
        x.put(30, 3);
        x.step(29);
        x.jam(0, true);
        x.step(1);
        Check.same("P11 jammed at the tick", x.item(0, 3), 1);
        Check.same("P8 commanded but jammed", x.gate(0, 6), 0);
        x.jam(0, false);
        Check.same("P8 open at once", x.gate(0, 6), 1);
        x.step(1);
        Check.same("P11 freed too late", x.item(0, 3), 1);
        CheckWeigher y = Check.loaded(SLOW + "gate over 30 0;limits 0 0;");
        y.jam(0, true);
        y.put(30, 3);
        y.step(29);
        y.jam(0, false);
        y.step(1);
        Check.same("P11 freed in time", y.item(0, 3), 3);
    }

    private static void drift() {
        CheckWeigher most = Check.loaded(SLOW + "drift 99 1;");
        most.step(1);
        Check.same("P18 99 * 1", most.sample(0), 99);
        Check.stepTo(most, 20000);
        Check.same("P18 99 * 20000", most.sample(0), 1980000);
        CheckWeigher slow = Check.loaded(SLOW + "drift 1 999;");
        slow.step(500);
        slow.step(498);
        Check.same("P18 998 / 999", slow.sample(0), 0);
        slow.step(1);
        Check.same("P18 999 / 999", slow.sample(0), 1);
        slow.step(500);
        slow.step(498);
        Check.same("P18 1997 / 999", slow.sample(0), 1);
        slow.step(1);
        Check.same("P18 1998 / 999", slow.sample(0), 2);
        CheckWeigher first = Check.loaded(SLOW + "drift 99 999;");
        first.step(10);
        Check.same("P18 990 / 999", first.sample(0), 0);
        first.step(1);
        Check.same("P18 1089 / 999", first.sample(0), 1);
        CheckWeigher none = Check.loaded(SLOW + "drift 0 1;");
        Check.stepTo(none, 20000);
        Check.same("P18 no drift", none.sample(0), 0);
        CheckWeigher without = Check.loaded(SLOW);
        Check.stepTo(without, 20000);
        Check.same("P18 no setting, no drift", without.sample(0), 0);
    }

    private static void vibrationInTheSample() {
        CheckWeigher x = Check.loaded(SLOW + "vibration 7 6 5;vibration 20 2 0;");
        // 5 + tick modulo 6 from 0 to 2 at the ticks 1, 2, 3, 7, 8, 9
        int[] due = {7 - 20, 7 + 20, 7 - 20, -7 + 20, -7 - 20, -7 + 20, 7 - 20, 7 + 20, 7 - 20, -7 + 20};
        for (int tick = 1; tick <= due.length; tick++) {
            x.step(1);
            Check.same("P18 tick " + tick, x.sample(0), due[tick - 1]);
        }
    }

    private static void zeroOff() {
        CheckWeigher x = Check.loaded(SLOW + "zero 0;drift 1 1;");
        x.setTare(5);
        x.step(300);
        Check.same("P7 zero 0 leaves the tare", x.report(7), 5);
        CheckWeigher y = Check.loaded(SLOW + "drift 1 1;");
        Check.same("P7 0 at first", y.report(7), 0);
        y.step(300);
        Check.same("P7 without zero too", y.report(7), 0);
    }

    private static void zeroOne() {
        CheckWeigher x = Check.loaded(SLOW + "vibration 9 2 0;zero 1;");
        Check.same("P7 not at time 0", x.report(7), 0);
        x.setTare(5);
        x.step(1);
        Check.same("P7 the first tick", x.report(7), -9);
        x.step(1);
        Check.same("P7 the second", x.report(7), 9);
    }

    private static void zeroOfSeveralTicks() {
        CheckWeigher x = Check.loaded(SLOW + "zero 3;drift 3 1;");
        x.setTare(77);
        x.step(2);
        Check.same("P7 time 0 does not count", x.report(7), 77);
        x.step(1);
        Check.same("P7 the ticks 1 to 3", x.report(7), 6);
        x.step(1);
        Check.same("P7 the ticks 2 to 4", x.report(7), 9);
    }

    private static void zeroSixty() {
        CheckWeigher x = Check.loaded("belt 1 2000 4000 9000;zero 60;drift 2 1;");
        x.step(59);
        Check.same("P7 59 ticks", x.report(7), 0);
        x.step(1);
        Check.same("P7 the ticks 1 to 60", x.report(7), 61);
        x.step(1);
        Check.same("P7 the ticks 2 to 61", x.report(7), 63);
        Check.stepTo(x, 20000);
        Check.same("P7 the ticks 19941 to 20000", x.report(7), 39941);
    }

    /** The item is on the table in part from tick 11 to tick 22. */
    private static void zeroBehindAnItem() {
        CheckWeigher x = Check.loaded(SLOW + "zero 3;drift 1 1;");
        x.put(30, 3);
        x.step(10);
        Check.same("P7 the ticks 8 to 10", x.report(7), 9);
        x.step(14);
        Check.same("P7 only the ticks 23 and 24", x.report(7), 9);
        x.step(1);
        Check.same("P7 the ticks 23 to 25", x.report(7), 24);
        CheckWeigher y = Check.loaded(SLOW + "zero 3;drift 1 1;");
        y.step(2);
        y.put(30, 3);
        y.step(10);
        Check.same("P7 an item before the table is none on it", y.report(7), 11);
        // on the table in part: 13 to 24 and 27 to 38, with only two ticks between
        CheckWeigher z = Check.loaded(SLOW + "zero 3;drift 1 1;");
        z.put(30, 3);
        z.step(14);
        z.put(30, 3);
        z.step(22);
        Check.same("P7 two empty ticks between two items", z.report(7), 9);
        CheckWeigher w = Check.loaded(SLOW + "zero 3;drift 1 1;");
        w.put(30, 3);
        w.step(15);
        w.put(30, 3);
        w.step(10);
        Check.same("P7 three empty ticks between two items", w.report(7), 24);
    }

    /** Empty ticks before a load do not count behind it; those before a refused one do. */
    private static void zeroSinceLoading() {
        String text = SLOW + "zero 5;drift 1 1;";
        CheckWeigher x = Check.loaded(text);
        x.step(10);
        Check.same("P7 the ticks 6 to 10", x.report(7), 8);
        Check.write(x, text);
        x.load();
        Check.same("P7 0 at first", x.report(7), 0);
        x.step(4);
        Check.same("P7 four ticks since loading", x.report(7), 0);
        x.step(1);
        Check.same("P7 five ticks since loading", x.report(7), 3);
        CheckWeigher y = Check.loaded(text);
        y.step(4);
        Check.write(y, text + "?");
        Check.refusesArgument("P4 wrong", y::load);
        y.step(1);
        Check.same("P7 five ticks", y.report(7), 3);
    }

    private static void zeroRoundsToNought() {
        CheckWeigher x = Check.loaded(SLOW + "vibration 10 4 1;zero 3;");
        // the values from tick 1 on: -10, -10, 10, 10
        x.step(3);
        Check.same("P7 -10 / 3", x.report(7), -3);
        x.step(1);
        Check.same("P7 10 / 3", x.report(7), 3);
    }

    /** The tare is the mean of the samples, whatever it was before and whenever it was set. */
    private static void zeroReplacesAnyTare() {
        CheckWeigher x = Check.loaded(SLOW + "zero 2;drift 1 1;");
        x.setTare(9);
        x.step(2);
        Check.same("P7 3 / 2", x.report(7), 1);
        CheckWeigher y = Check.loaded(SLOW + "zero 3;drift 3 1;");
        y.step(2);
        y.setTare(50);
        Check.same("P14 set between the empty ticks", y.report(7), 50);
        y.step(1);
        Check.same("P7 the ticks 1 to 3", y.report(7), 6);
        y.setTare(-50);
        Check.same("P7 at the present time", y.report(7), -50);
        y.step(1);
        Check.same("P7 the ticks 2 to 4", y.report(7), 9);
    }

    /** A jam closes the gate; what the gate has diverted is confirmed all the same. */
    private static void jamBehindTheDiversion() {
        CheckWeigher x = Check.loaded(SLOW + "gate over 30 0;limits 0 0;confirm 5;");
        x.put(30, 3);
        x.step(30);
        x.jam(0, true);
        x.step(5);
        Check.same("P8 confirmed though jammed", x.gate(0, 4), 1);
        Check.same("P8 no alarm", x.gate(0, 5), 0);
    }

    private static void confirmEdges() {
        int[] ticks = {1, 2, 5, 99};
        for (int confirm : ticks) {
            CheckWeigher x = Check.loaded(SLOW + "gate over 30 0;limits 0 0;" + "confirm " + confirm + ";");
            x.put(30, 3);
            x.step(29);
            Check.same("P7 nothing waits", x.report(10), 0);
            x.step(1);
            Check.same("P7 one waits", x.report(10), 1);
            if (confirm > 1) {
                x.step(confirm - 1);
            }
            Check.same("P7 it still waits, " + confirm, x.report(10), 1);
            Check.same("P8 not confirmed", x.gate(0, 4), 0);
            x.step(1);
            Check.same("P7 it waits no more, " + confirm, x.report(10), 0);
            Check.same("P8 confirmed", x.gate(0, 4), 1);
            x.step(200);
            Check.same("P8 confirmed once", x.gate(0, 4), 1);
            Check.same("P7 no alarm", x.report(11), 0);
        }
        CheckWeigher y = Check.loaded(SLOW + "gate over 30 0;limits 0 0;");
        y.put(30, 3);
        y.step(34);
        Check.same("P8 4 ticks without the setting", y.gate(0, 4), 0);
        y.step(1);
        Check.same("P8 5 ticks without the setting", y.gate(0, 4), 1);
    }

    /** Only whether the sensor fails at tick 35 counts. */
    private static void sensorAtTheTick() {
        CheckWeigher x = Check.loaded(SLOW + "gate over 30 0;limits 0 0;confirm 5;");
        x.put(30, 3);
        x.sensor(0, true);
        x.step(34);
        x.sensor(0, false);
        x.step(1);
        Check.same("P12 repaired in time", x.gate(0, 4), 1);
        Check.same("P12 no alarm", x.gate(0, 5), 0);
        CheckWeigher y = Check.loaded(SLOW + "gate over 30 0;limits 0 0;confirm 5;");
        y.put(30, 3);
        y.step(34);
        y.sensor(0, true);
        Check.same("P12 no alarm yet", y.gate(0, 5), 0);
        y.step(1);
        Check.same("P12 alarm", y.gate(0, 5), 1);
        Check.same("P12 not confirmed", y.gate(0, 4), 0);
        Check.same("P12 it does not wait", y.report(10), 0);
        y.sensor(0, false);
        y.step(50);
        Check.same("P12 it stays an alarm", y.report(11), 1);
        Check.same("P12 it is not confirmed later", y.gate(0, 4), 0);
        CheckWeigher z = Check.loaded(SLOW + "gate over 30 0;limits 0 0;confirm 5;");
        z.put(30, 3);
        z.step(35);
        z.sensor(0, true);
        z.step(50);
        Check.same("P12 failing too late", z.report(11), 0);
    }

    /** The first comes to the second gate and the second to the first one, both at tick 50. */
    private static void confirmationsOfOneTick() {
        CheckWeigher x = Check.loaded(SLOW + "gate under 30 0;gate over 50 0;limits 35 35;confirm 4;");
        x.put(40, 3);
        x.step(20);
        x.put(30, 3);
        x.step(30);
        Check.same("P7 two wait", x.report(10), 2);
        x.sensor(1, true);
        x.step(3);
        Check.same("P7 two still wait", x.report(10), 2);
        x.step(1);
        Check.same("P7 none waits", x.report(10), 0);
        Check.same("P8 the first gate's is confirmed", x.gate(0, 4), 1);
        Check.same("P8 no alarm at the first gate", x.gate(0, 5), 0);
        Check.same("P8 an alarm at the second", x.gate(1, 5), 1);
        Check.same("P8 the second gate's is not confirmed", x.gate(1, 4), 0);
        Check.same("P7 one alarm", x.report(11), 1);
    }

    private static void jamAndSensorChanges() {
        CheckWeigher x = Check.loaded(SLOW + "gate under 30 0;gate over 50 0;");
        int[] none = {-1, 2, 3, Integer.MIN_VALUE, Integer.MAX_VALUE};
        for (int gate : none) {
            Check.refusesIndex("P11 gate " + gate, () -> x.jam(gate, true));
            Check.refusesIndex("P12 gate " + gate, () -> x.sensor(gate, true));
        }
        for (int gate = 0; gate < 2; gate++) {
            Check.same("P11 free already", x.jam(gate, false), false);
            Check.same("P12 works already", x.sensor(gate, false), false);
            Check.same("P11 jams", x.jam(gate, true), true);
            Check.same("P12 fails", x.sensor(gate, true), true);
            Check.same("P11 jammed already", x.jam(gate, true), false);
            Check.same("P12 fails already", x.sensor(gate, true), false);
            Check.same("P8 both show", x.gate(gate, 7) + x.gate(gate, 8), 2);
        }
        Check.same("P11 free again", x.jam(1, false), true);
        Check.same("P8 the other is still jammed", x.gate(0, 7), 1);
        Check.same("P12 works again", x.sensor(0, false), true);
        Check.same("P8 the other still fails", x.gate(1, 8), 1);
        CheckWeigher y = Check.loaded(BELT);
        Check.refusesIndex("P11 no gate at all", () -> y.jam(0, false));
        Check.refusesIndex("P12 no gate at all", () -> y.sensor(0, false));
    }
}
