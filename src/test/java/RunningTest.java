/** Promises 9 to 14: put, step, jam, sensor, setLimits, setTare. */
final class RunningTest {
    private static final String BELT = "belt 10 100 200 400;";

    public static void main(String[] args) {
        put();
        putLimit();
        fullBelt();
        step();
        stepLimit();
        order();
        leavingItemsCountThisTick();
        tareOfEmptyTable();
        gatesAreMetInOrder();
        gateCloseToTheTable();
        lateGate();
        falseRejectsAndMisses();
        jam();
        sensor();
        setLimits();
        setTare();
        Check.finish("RunningTest");
    }

    private static void put() {
        CheckWeigher x = new CheckWeigher();
        Check.refusesArgument("P9 weight 0", () -> x.put(0, 10));
        Check.refusesArgument("P9 weight 10000", () -> x.put(10000, 10));
        Check.refusesArgument("P9 length 0", () -> x.put(1, 0));
        Check.refusesArgument("P9 length 2001", () -> x.put(1, 2001));
        Check.same("P9 none was put", x.report(8), 0);
        Check.same("P9 least", x.put(1, 1), 0);
        Check.refusesState("P9 rear -1", () -> x.put(9999, 2000));
        Check.refusesArgument("P9 argument first", () -> x.put(0, 2000));
        x.step(1);
        Check.same("P9 greatest", x.put(9999, 25), 1);
        x.step(2);
        Check.refusesState("P9 rear -5", () -> x.put(1, 1));
        x.step(1);
        Check.same("P9 rear 5", x.put(1, 40), 2);
        x.step(4);
        Check.same("P9 rear 0", x.put(1, 2000), 3);
        Check.same("P9 front", x.item(3, 2), 0);
        x.step(29);
        Check.refusesState("P9 long item on the belt", () -> x.put(1, 1));
        x.step(1);
        Check.same("P9 long item off the belt", x.put(1, 1), 4);
    }

    private static void putLimit() {
        CheckWeigher x = new CheckWeigher();
        for (int i = 0; i < 60; i++) {
            Check.same("P9 number", x.put(5, 10), i);
            x.step(1);
        }
        Check.refusesState("P9 61st", () -> x.put(5, 10));
        Check.refusesArgument("P9 61st with a wrong weight", () -> x.put(0, 10));
        Check.same("P9 60", x.report(8), 60);
        Check.write(x, BELT);
        x.load();
        Check.same("P9 after load", x.put(5, 10), 0);
    }

    /** As many items, gates, vibrations and ticks as there can be. */
    private static void fullBelt() {
        CheckWeigher x = Check.loaded("belt 1 2000 4000 9000;vibration 999 40 39;vibration 999 38 37;"
            + "vibration 999 36 35;vibration 999 34 33;gate under 4001 50;gate over 4002 50;gate unsteady 8999 50;"
            + "drift 99 1;zero 60;window 60;least 60;confirm 99;");
        for (int i = 0; i < 60; i++) {
            Check.same("P9 number", x.put(9999, 1), i);
            x.step(1);
        }
        Check.same("P9 all are on the belt", x.report(9), 60);
        Check.same("P31 fate of the first", x.fate(0), 3);
        Check.same("P31 fate of the last", x.fate(59), 3);
        Check.stepTo(x, 4061);
        Check.same("P20 all are disturbed", x.decided(3), 60);
        Check.same("P29 all will be diverted", x.openTicks(2), 60);
        Check.same("P30 the first of them", x.opensAt(2), 8999);
        Check.stepTo(x, 10000);
        Check.same("P19 all are diverted", x.count(3), 60);
        Check.same("P8 all are confirmed", x.gate(2, 4), 60);
        Check.same("P10 no samples are left out", x.item(0, 4) + x.item(59, 4), 2);
        Check.same("P22 two have a measured weight", x.meanError() > 0.0, true);
        Check.refusesElement("P21 none is good", x::meanGood);
    }

    private static void step() {
        CheckWeigher x = Check.loaded(BELT);
        Check.refusesArgument("P10 0", () -> x.step(0));
        Check.refusesArgument("P10 501", () -> x.step(501));
        Check.refusesArgument("P10 negative", () -> x.step(-5));
        Check.same("P10 no time", x.report(0), 0);
        x.put(5, 5);
        x.step(1);
        x.put(6, 5);
        Check.same("P10 19 ticks", x.step(19), 0);
        Check.same("P10 one decision", x.step(1), 1);
        Check.same("P10 the other", x.step(500), 1);
        Check.same("P10 time", x.report(0), 521);
        CheckWeigher fast = Check.loaded("belt 100 100 200 400;");
        fast.put(5, 5);
        fast.step(1);
        fast.put(5, 5);
        Check.same("P10 two decisions", fast.step(3), 2);
    }

    private static void stepLimit() {
        CheckWeigher x = new CheckWeigher();
        Check.stepTo(x, 19999);
        Check.refusesState("P10 20001", () -> x.step(2));
        Check.refusesArgument("P10 argument first", () -> x.step(501));
        Check.same("P10 20000", x.step(1), 0);
        Check.refusesState("P10 20001", () -> x.step(1));
        Check.same("P10 time", x.report(0), 20000);
    }

    /** The sample, who gets it, the decision and the gate, all in one tick. */
    private static void order() {
        CheckWeigher x = Check.loaded("belt 30 100 200 400;vibration 3 2 1;gate over 210 0;drift 5 2;limits 0 99;");
        x.put(101, 33);
        x.step(4);
        // the front at 120: 20 mm of 33 on the table: 61; drift 10; vibration at 4: -3
        Check.same("P10 sample in part", x.sample(0), 61 + 10 - 3);
        x.step(1);
        Check.same("P10 sample as a whole", x.sample(0), 101 + 12 + 3);
        Check.same("P10 kept", x.item(0, 4), 1);
        x.step(1);
        Check.same("P10 before the decision", x.item(0, 3), 0);
        Check.same("P10 one decision", x.step(1), 1);
        // the front at 210: 23 mm of 33 on the table: 70; drift 17; vibration at 7: 3
        Check.same("P10 decided at the gate", x.item(0, 3), 3);
        Check.same("P10 sample of an item that leaves", x.sample(0), 70 + 17 + 3);
        Check.same("P10 samples at 150 and 180", x.measured(0), (116 + 113) / 2);
    }

    private static void leavingItemsCountThisTick() {
        CheckWeigher x = Check.loaded("belt 10 100 200 210;zero 1;drift 1 1;");
        x.put(100, 30);
        x.step(21);
        Check.same("P10 left at the end", x.item(0, 3), 2);
        Check.same("P10 it was on the table", x.report(7), 10);
        Check.same("P10 sample of it", x.sample(0), 66 + 21);
        x.step(1);
        Check.same("P10 the table is empty", x.report(7), 22);
        Check.same("P10 sample without it", x.sample(0), 22);
    }

    private static void tareOfEmptyTable() {
        CheckWeigher x = Check.loaded(BELT + "zero 3;drift 10 1;");
        x.step(2);
        Check.same("P10 time 0 does not count", x.report(7), 0);
        x.step(1);
        Check.same("P10 three ticks", x.report(7), 20);
        x.step(1);
        Check.same("P10 the latest three", x.report(7), 30);
        x.put(9, 20);
        x.step(10);
        Check.same("P10 front at the beginning", x.report(7), 130);
        x.step(1);
        Check.same("P10 front behind it", x.report(7), 130);
        x.step(10);
        Check.same("P10 rear before the end", x.report(7), 130);
        Check.same("P10 rear before the end", x.item(0, 2), 210);
        x.step(2);
        Check.same("P10 two empty ticks", x.report(7), 130);
        x.step(1);
        Check.same("P10 three empty ticks", x.report(7), 270);
        CheckWeigher negative = Check.loaded(BELT + "vibration 7 4 0;zero 3;");
        negative.step(4);
        // the values at 2, 3, 4: -7, -7, 7
        Check.same("P10 rounded toward 0", negative.report(7), -2);
        CheckWeigher none = Check.loaded(BELT + "drift 10 1;");
        none.step(100);
        Check.same("P10 without zero", none.report(7), 0);
        CheckWeigher most = Check.loaded(BELT + "zero 60;drift 60 1;");
        most.step(59);
        Check.same("P10 59 ticks", most.report(7), 0);
        most.step(1);
        Check.same("P10 60 ticks", most.report(7), 61 * 30);
    }

    private static void gatesAreMetInOrder() {
        CheckWeigher x = Check.loaded("belt 100 100 200 400;gate under 310 0;gate over 320 0;limits 50 60;");
        x.put(70, 100);
        x.step(3);
        Check.same("P10 no samples but one", x.item(0, 4), 1);
        Check.same("P10 over", x.item(0, 6), 2);
        x.step(1);
        Check.same("P10 passes the closed first gate", x.item(0, 3), 3);
        Check.same("P10 its gate", x.gate(1, 3), 1);
        Check.same("P10 at the end and at the gate", x.item(0, 9), 4);
    }

    private static void gateCloseToTheTable() {
        CheckWeigher x = Check.loaded(BELT + "gate over 205 0;limits 0 50;");
        x.put(70, 20);
        x.step(20);
        Check.same("P10 closed", x.gate(0, 6), 0);
        x.step(1);
        Check.same("P10 open at once", x.gate(0, 6), 1);
        Check.same("P10 diverted at its decision", x.item(0, 3), 3);
        Check.same("P10 where", x.item(0, 2), 210);
        Check.same("P29 one tick more", x.openTicks(0), 1);
        CheckWeigher slow = Check.loaded(BELT + "gate over 205 1;limits 0 50;");
        slow.put(70, 20);
        slow.step(21);
        Check.same("P10 too late for it", slow.item(0, 3), 1);
        Check.same("P30 open behind it", slow.opensAt(0), 22);
        Check.same("P31 a miss", slow.fate(0), 5);
        slow.step(20);
        Check.same("P10 a miss", slow.item(0, 3), 5);
    }

    private static void lateGate() {
        // the decision at 21, the arrival at 25, two ticks long: 25 and 26
        int[] reactions = {4, 5, 6};
        int[] openTicks = {2, 1, 0};
        for (int i = 0; i < reactions.length; i++) {
            CheckWeigher x = Check.loaded(BELT + "gate over 250 " + reactions[i] + ";limits 0 50;");
            x.put(70, 20);
            x.step(21);
            Check.same("P10 gate", x.item(0, 7), 0);
            Check.same("P29 openTicks", x.openTicks(0), openTicks[i]);
            Check.same("P31 fate", x.fate(0), i == 0 ? 3 : 5);
        }
    }

    private static void falseRejectsAndMisses() {
        CheckWeigher x = Check.loaded(BELT + "gate over 250 5;limits 0 50;");
        x.put(70, 100);
        x.step(11);
        x.put(40, 10);
        x.step(10);
        // the first arrives at 25, its gate is open from 26 to 34; the second would come at 36
        Check.same("P31 miss", x.fate(0), 5);
        Check.same("P31 passes", x.fate(1), 2);
        CheckWeigher y = Check.loaded(BELT + "gate unsteady 250 5;limits 0 50;");
        y.put(70, 30);
        y.step(3);
        y.put(40, 10);
        y.step(40);
        // both are disturbed; the first opens the gate at 26 and 27, the second would from 29 up to 29
        Check.same("P10 miss", y.item(0, 3), 5);
        Check.same("P10 own reaction too late", y.item(1, 3), 5);
        CheckWeigher z = Check.loaded(BELT + "gate over 250 5;limits 0 50;");
        z.put(70, 2000);
        Check.stepTo(z, 25);
        Check.same("P10 long items have no samples", z.item(0, 6), 3);
        CheckWeigher w = Check.loaded("belt 10 100 110 400;gate under 150 0;gate over 250 0;limits 50 60;");
        w.put(40, 10);
        w.step(1);
        w.put(70, 10);
        w.step(1);
        w.put(55, 10);
        w.step(10);
        Check.same("P10 under", w.item(0, 6), 0);
        w.step(2);
        Check.same("P10 over", w.item(1, 6), 2);
        Check.same("P10 good", w.item(2, 6), 1);
        w.step(30);
        Check.same("P10 diverted", w.item(0, 3), 3);
        Check.same("P10 diverted", w.item(1, 3), 3);
        Check.same("P10 passed", w.item(2, 3), 2);
        falseRejects();
    }

    /** A gate that is still open for one item takes the next one. */
    private static void falseRejects() {
        CheckWeigher x = Check.loaded(BELT + "gate unsteady 250 0;gate under 300 0;limits 50 60;confirm 1;");
        x.put(70, 2000);
        x.step(25);
        Check.same("P10 a long item is diverted", x.item(0, 3), 3);
        Check.same("P29 its gate stays open", x.openTicks(0), 199);
        x.put(55, 10);
        x.step(10);
        x.put(45, 10);
        Check.same("P31 a good item will be diverted", x.fate(1), 4);
        Check.same("P31 one for another gate too", x.fate(2), 4);
        x.step(14);
        Check.same("P10 on the belt", x.item(1, 3), 1);
        x.step(1);
        Check.same("P10 false reject", x.item(1, 3), 4);
        Check.same("P10 when", x.item(1, 9), 50);
        x.step(9);
        Check.same("P10 on the belt", x.item(2, 3), 1);
        Check.same("P10 it should go to the other gate", x.item(2, 7), 1);
        x.step(1);
        Check.same("P19 false rejects", x.count(4), 2);
        Check.same("P8 all were diverted there", x.gate(0, 3), 3);
        Check.same("P8 none was diverted at the other", x.gate(1, 3), 0);
        x.step(1);
        Check.same("P8 all are confirmed", x.gate(0, 4), 3);
        Check.stepTo(x, 224);
        Check.same("P8 open to the end", x.gate(0, 6), 1);
        x.step(1);
        Check.same("P8 not longer", x.gate(0, 6), 0);
    }

    private static void jam() {
        CheckWeigher x = Check.loaded(BELT + "gate over 250 0;gate under 300 0;limits 0 50;");
        Check.same("P11 jam", x.jam(0, true), true);
        Check.same("P11 jammed already", x.jam(0, true), false);
        Check.same("P11 the other is free", x.jam(1, false), false);
        x.put(70, 20);
        x.step(26);
        Check.same("P11 not diverted", x.item(0, 3), 1);
        Check.same("P11 free", x.jam(0, false), true);
        Check.same("P11 open again", x.gate(0, 6), 1);
        x.step(20);
        Check.same("P11 a miss", x.item(0, 3), 5);
        Check.refusesIndex("P11 no gate 2", () -> x.jam(2, true));
        Check.refusesIndex("P11 no gate -1", () -> x.jam(-1, false));
        CheckWeigher none = new CheckWeigher();
        Check.refusesIndex("P11 no gate at all", () -> none.jam(0, true));
    }

    private static void sensor() {
        CheckWeigher x = Check.loaded(BELT + "gate over 250 0;limits 0 50;confirm 4;");
        x.put(70, 20);
        x.step(10);
        x.put(71, 20);
        x.step(15);
        Check.same("P12 waits", x.report(10), 1);
        Check.same("P12 fails", x.sensor(0, true), true);
        Check.same("P12 no change", x.sensor(0, true), false);
        x.step(3);
        Check.same("P12 still waits", x.report(10), 1);
        Check.same("P12 no alarm yet", x.report(11), 0);
        x.step(1);
        Check.same("P12 alarm", x.report(11), 1);
        Check.same("P12 alarm of the gate", x.gate(0, 5), 1);
        Check.same("P12 not confirmed", x.gate(0, 4), 0);
        Check.same("P12 no more waiting", x.report(10), 0);
        Check.same("P12 repaired", x.sensor(0, false), true);
        x.step(20);
        Check.same("P12 the second is confirmed", x.gate(0, 4), 1);
        Check.same("P12 one alarm", x.report(11), 1);
        Check.same("P12 two diverted", x.gate(0, 3), 2);
        Check.refusesIndex("P12 no gate 1", () -> x.sensor(1, true));
        Check.refusesIndex("P12 no gate -1", () -> x.sensor(-1, true));
    }

    private static void setLimits() {
        CheckWeigher x = Check.loaded(BELT + "limits 10 20;");
        x.put(15, 10);
        x.step(21);
        x.setLimits(16, 9999);
        Check.same("P13 low", x.report(4), 16);
        Check.same("P13 high", x.report(5), 9999);
        Check.same("P13 earlier decisions stay", x.item(0, 6), 1);
        x.put(15, 10);
        x.step(21);
        Check.same("P13 later decisions", x.item(1, 6), 0);
        Check.refusesArgument("P13 low -1", () -> x.setLimits(-1, 5));
        Check.refusesArgument("P13 low 10000", () -> x.setLimits(10000, 10000));
        Check.refusesArgument("P13 high below low", () -> x.setLimits(5, 4));
        Check.refusesArgument("P13 high 10000", () -> x.setLimits(5, 10000));
        Check.same("P13 kept", x.report(4), 16);
        x.setLimits(0, 0);
        Check.same("P13 both 0", x.report(5), 0);
        x.setLimits(9999, 9999);
        Check.same("P13 both 9999", x.report(4), 9999);
    }

    private static void setTare() {
        CheckWeigher x = Check.loaded(BELT + "limits 10 20;");
        Check.same("P14 from 0", x.setTare(-9999), 0);
        Check.same("P14 from -9999", x.setTare(9999), -9999);
        Check.refusesArgument("P14 10000", () -> x.setTare(10000));
        Check.refusesArgument("P14 -10000", () -> x.setTare(-10000));
        Check.same("P14 from 9999", x.setTare(6), 9999);
        x.put(15, 10);
        x.step(21);
        Check.same("P14 measured", x.measured(0), 9);
        Check.same("P14 class", x.item(0, 6), 0);
        x.setTare(0);
        Check.same("P14 measured stays", x.measured(0), 9);
        CheckWeigher zeroed = Check.loaded(BELT + "zero 1;");
        zeroed.setTare(50);
        zeroed.step(1);
        Check.same("P14 an empty table sets it anew", zeroed.report(7), 0);
    }
}
