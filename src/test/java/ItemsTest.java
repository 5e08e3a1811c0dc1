/** Promises 15 to 22: items, their samples, counts and means. */
final class ItemsTest {
    private static final String BELT = "belt 10 100 200 400;";

    public static void main(String[] args) {
        item();
        disturbed();
        limitsOfClasses();
        least();
        steady();
        windowAndNotch();
        measured();
        sampleOf();
        latestSixty();
        sample();
        count();
        decided();
        means();
        goodFirst();
        Check.finish("ItemsTest");
    }

    private static void items(CheckWeigher x, String when, int item, int... due) {
        for (int what = 0; what < due.length; what++) {
            Check.same("P15 item(" + item + ", " + what + ") " + when, x.item(item, what), due[what]);
        }
    }

    private static void item() {
        CheckWeigher x = Check.loaded(BELT + "gate under 255 0;limits 50 60;");
        Check.refusesIndex("P15 no item", () -> x.item(0, 0));
        x.put(40, 30);
        items(x, "when put", 0, 40, 30, 0, 0, 0, 0, -1, -1, -1, -1);
        x.step(20);
        // as a whole on the table with the fronts 130 to 200
        items(x, "before the decision", 0, 40, 30, 200, 0, 8, 0, -1, -1, -1, -1);
        x.put(55, 10);
        x.step(1);
        items(x, "after the decision", 0, 40, 30, 210, 1, 8, 0, 0, 0, 21, -1);
        x.step(100);
        items(x, "diverted", 0, 40, 30, 260, 3, 8, 0, 0, 0, 21, 26);
        items(x, "good", 1, 55, 10, 400, 2, 10, 0, 1, -1, 41, 60);
        Check.refusesIndex("P15 item 2", () -> x.item(2, 0));
        Check.refusesIndex("P15 item -1", () -> x.item(-1, 10));
        Check.refusesArgument("P15 what 10", () -> x.item(0, 10));
        Check.refusesArgument("P15 what -1", () -> x.item(1, -1));
    }

    private static void disturbed() {
        CheckWeigher x = Check.loaded(BELT);
        x.put(40, 30);
        x.step(3);
        x.put(50, 30);
        x.step(10);
        Check.same("P15 alone at 130", x.item(0, 5), 0);
        x.step(1);
        Check.same("P15 the other at 110", x.item(0, 5), 1);
        Check.same("P15 no sample then", x.item(0, 4), 1);
        Check.same("P15 the other is not whole", x.item(1, 5), 0);
        x.step(9);
        // time 23: the first at 230 with its rear at 200, the second at 200
        Check.same("P15 the second too", x.item(1, 5), 1);
        Check.same("P15 its one sample", x.item(1, 4), 1);
        x.step(1);
        Check.same("P20 both are unsteady", x.decided(3), 2);
        Check.same("P16 measured all the same", x.measured(1), 50);
        CheckWeigher apart = Check.loaded(BELT);
        apart.put(40, 30);
        apart.step(13);
        apart.put(50, 30);
        apart.step(23);
        Check.same("P15 apart", apart.item(0, 5) + apart.item(1, 5), 0);
        CheckWeigher near = Check.loaded(BELT);
        near.put(40, 30);
        near.step(12);
        near.put(50, 30);
        near.step(23);
        Check.same("P15 near, the first was decided before", near.item(0, 5), 0);
        Check.same("P15 near, the second came later as a whole", near.item(1, 5), 0);
    }

    private static int classOf(String setting, int weight) {
        CheckWeigher x = Check.loaded(BELT + setting);
        x.put(weight, 30);
        x.step(21);
        return x.item(0, 6);
    }

    private static void limitsOfClasses() {
        Check.same("P15 under", classOf("limits 50 60;", 49), 0);
        Check.same("P15 least good", classOf("limits 50 60;", 50), 1);
        Check.same("P15 greatest good", classOf("limits 50 60;", 60), 1);
        Check.same("P15 over", classOf("limits 50 60;", 61), 2);
        Check.same("P15 without limits", classOf("", 1), 1);
        Check.same("P15 without limits", classOf("", 9999), 1);
    }

    private static void least() {
        // eight samples
        Check.same("P15 enough", classOf("least 8;", 50), 1);
        Check.same("P15 too few", classOf("least 9;", 50), 3);
        Check.same("P15 least counts all samples", classOf("least 8;window 2;", 50), 1);
        CheckWeigher x = Check.loaded(BELT);
        x.put(5, 101);
        x.step(21);
        Check.same("P15 no samples", x.item(0, 6), 3);
        Check.refusesElement("P16 no samples", () -> x.measured(0));
        Check.refusesElement("P22 no measured weight", x::meanError);
    }

    private static void steady() {
        String vibration = "vibration 4 20 0;";
        // the ticks 13 to 20: seven of the second half, one of the first
        Check.same("P15 spread is steady", classOf(vibration + "steady 8;", 50), 1);
        Check.same("P15 spread is greater", classOf(vibration + "steady 7;", 50), 3);
        Check.same("P15 spread in the window", classOf(vibration + "steady 0;window 1;", 50), 1);
        Check.same("P15 spread of the latest two", classOf(vibration + "steady 0;window 2;", 50), 3);
        Check.same("P15 the greatest is not the latest", classOf("vibration 4 40 3;steady 7;window 5;", 50), 3);
        Check.same("P15 the greatest is not the latest", classOf("vibration 4 40 3;steady 8;window 5;", 50), 1);
        Check.same("P15 the oldest of the window", classOf("vibration 4 16 2;steady 0;window 7;", 50), 1);
        Check.same("P15 the one before the window", classOf("vibration 4 16 2;steady 0;window 8;", 50), 3);
    }

    private static int window(String text) {
        return Check.loaded(BELT + text).report(6);
    }

    private static void windowAndNotch() {
        Check.same("P7 window", window("window 7;"), 7);
        Check.same("P7 off", window("vibration 1 4 0;window 7;notch off;"), 7);
        Check.same("P7 notch", window("vibration 1 4 0;window 7;notch on;"), 4);
        Check.same("P7 notch, equal", window("vibration 1 4 0;window 8;notch on;"), 8);
        Check.same("P7 notch, two", window("vibration 1 4 0;vibration 1 6 0;notch on;window 35;"), 24);
        Check.same("P7 notch, none", window("vibration 1 4 0;vibration 1 6 0;notch on;window 11;"), 11);
        Check.same("P7 notch, no vibrations", window("notch on;window 11;"), 11);
        Check.same("P7 notch, 20 without the setting", window("vibration 1 6 0;notch on;"), 18);
        // the ticks 13 to 20 with the values -4 but for 20
        String text = BELT + "vibration 4 20 0;window ";
        int[] windows = {1, 2, 3, 4, 8, 9, 60};
        int[] due = {54, 50, 48, 48, 47, 47, 47};
        for (int i = 0; i < windows.length; i++) {
            CheckWeigher x = Check.loaded(text + windows[i] + ";");
            x.put(50, 30);
            x.step(21);
            Check.same("P16 window " + windows[i], x.measured(0), due[i]);
        }
        CheckWeigher x = Check.loaded(BELT + "vibration 4 4 0;window 7;notch on;");
        x.put(50, 30);
        x.step(21);
        Check.same("P16 notch", x.measured(0), 50);
    }

    private static void measured() {
        CheckWeigher x = Check.loaded(BELT + "drift 1 1;zero 1;");
        x.put(50, 30);
        Check.refusesElement("P16 without a decision", () -> x.measured(0));
        Check.refusesIndex("P16 no item 1", () -> x.measured(1));
        Check.refusesIndex("P16 no item -1", () -> x.measured(-1));
        x.step(20);
        Check.refusesElement("P16 before the decision", () -> x.measured(0));
        x.step(1);
        // the samples 50 + 13 to 50 + 20, the tare of tick 10
        Check.same("P16 measured", x.measured(0), 66 - 10);
        x.step(100);
        Check.same("P16 later too", x.measured(0), 56);
        CheckWeigher negative = Check.loaded("belt 100 100 200 400;vibration 50 4 0;vibration 3 20 1;");
        negative.put(1, 100);
        negative.step(3);
        // tick 2: 1 - 50 + 3
        Check.same("P16 negative", negative.measured(0), -46);
        Check.same("P22 error without sign", (long) negative.meanError(), 47);
    }

    private static void sampleOf() {
        CheckWeigher x = Check.loaded(BELT + "drift 1 1;");
        x.put(50, 80);
        Check.refusesIndex("P17 no samples", () -> x.sampleOf(0, 0));
        x.step(50);
        Check.same("P17 oldest", x.sampleOf(0, 0), 68);
        Check.same("P17 next", x.sampleOf(0, 1), 69);
        Check.same("P17 latest", x.sampleOf(0, 2), 70);
        Check.refusesIndex("P17 index 3", () -> x.sampleOf(0, 3));
        Check.refusesIndex("P17 index -1", () -> x.sampleOf(0, -1));
        Check.refusesIndex("P17 item 1", () -> x.sampleOf(1, 0));
        Check.refusesIndex("P17 item -1", () -> x.sampleOf(-1, 0));
    }

    private static void latestSixty() {
        CheckWeigher x = Check.loaded("belt 1 100 200 400;drift 1 1;window 60;least 60;");
        x.put(50, 30);
        x.step(189);
        Check.same("P15 sixty", x.item(0, 4), 60);
        Check.same("P17 first of sixty", x.sampleOf(0, 0), 180);
        x.step(1);
        Check.same("P15 no more", x.item(0, 4), 60);
        Check.same("P17 the oldest is gone", x.sampleOf(0, 0), 181);
        Check.same("P17 the latest", x.sampleOf(0, 59), 240);
        x.step(11);
        Check.same("P17 at the end", x.sampleOf(0, 0), 191);
        Check.same("P16 mean of 191 to 250", x.measured(0), 220);
        Check.same("P15 enough for least", x.item(0, 6), 1);
        Check.refusesIndex("P17 index 60", () -> x.sampleOf(0, 60));
    }

    private static void sample() {
        CheckWeigher x = Check.loaded("belt 10 100 200 9000;vibration 100 10 7;drift 7 3;");
        Check.refusesElement("P18 no tick", () -> x.sample(0));
        x.put(7, 30);
        x.step(1);
        // 1 * 7 / 3; 8 is in the second half
        Check.same("P18 first", x.sample(0), 2 - 100);
        Check.refusesElement("P18 only one", () -> x.sample(1));
        x.step(10);
        // 10 mm of 30: 70 / 30; 11 * 7 / 3; 18 is in the second half
        Check.same("P18 in part", x.sample(0), 2 + 25 - 100);
        Check.same("P18 the first one still", x.sample(10), 2 - 100);
        Check.refusesElement("P18 11", () -> x.sample(11));
        Check.refusesArgument("P18 60", () -> x.sample(60));
        Check.refusesArgument("P18 -1", () -> x.sample(-1));
        x.step(49);
        Check.same("P18 59", x.sample(59), 2 - 100);
        x.step(1);
        Check.same("P18 59 of 61", x.sample(59), 4 - 100);
        CheckWeigher y = Check.loaded(BELT);
        y.put(100, 2000);
        y.step(30);
        Check.same("P18 longer than the table", y.sample(0), 5);
        y.step(10);
        Check.same("P18 when it leaves the belt", y.sample(0), 5);
        y.step(1);
        Check.same("P18 off the belt", y.sample(0), 0);
        CheckWeigher z = Check.loaded(BELT);
        z.put(70, 30);
        z.step(6);
        z.put(80, 40);
        z.step(16);
        // the fronts 220 and 160
        Check.same("P18 two items", z.sample(0), 70 / 3 + 80);
    }

    private static void count() {
        CheckWeigher x = Check.loaded(BELT + "gate over 250 0;limits 50 60;");
        int[] weights = {70, 55, 70, 40};
        for (int weight : weights) {
            x.put(weight, 10);
            x.step(14);
        }
        x.put(70, 10);
        x.step(1);
        // diverted at 250, passed, diverted at 250, front 150, front 10
        int[] due = {2, 0, 1, 2, 0, 0};
        for (int state = 0; state <= 5; state++) {
            Check.same("P19 count(" + state + ")", x.count(state), due[state]);
        }
        x.jam(0, true);
        x.step(60);
        int[] later = {0, 0, 2, 2, 0, 1};
        for (int state = 0; state <= 5; state++) {
            Check.same("P19 later count(" + state + ")", x.count(state), later[state]);
        }
        Check.refusesArgument("P19 -1", () -> x.count(-1));
        Check.refusesArgument("P19 6", () -> x.count(6));
    }

    private static void goodFirst() {
        CheckWeigher x = Check.loaded(BELT + "limits 50 60;");
        x.put(55, 10);
        x.step(21);
        x.setTare(4);
        x.put(57, 10);
        x.step(21);
        Check.sameDouble("P21 the first one too", x.meanGood(), 54.0);
        Check.sameDouble("P22 the second one", x.meanError(), 2.0);
    }

    private static void decided() {
        CheckWeigher x = Check.loaded(BELT + "limits 50 60;");
        int[] weights = {70, 55, 71, 40, 72, 56};
        for (int weight : weights) {
            x.put(weight, 10);
            x.step(14);
        }
        x.put(50, 101);
        Check.same("P20 one has no decision yet", x.decided(1), 1);
        x.step(21);
        int[] due = {1, 2, 3, 1};
        for (int kind = 0; kind <= 3; kind++) {
            Check.same("P20 decided(" + kind + ")", x.decided(kind), due[kind]);
        }
        Check.refusesArgument("P20 -1", () -> x.decided(-1));
        Check.refusesArgument("P20 4", () -> x.decided(4));
    }

    private static void means() {
        CheckWeigher x = Check.loaded(BELT + "limits 50 60;");
        Check.refusesElement("P21 no items", x::meanGood);
        Check.refusesElement("P22 no items", x::meanError);
        x.put(70, 10);
        x.step(21);
        Check.refusesElement("P21 no good ones", x::meanGood);
        Check.sameDouble("P22 no error", x.meanError(), 0.0);
        int[] weights = {50, 51, 51};
        for (int weight : weights) {
            x.put(weight, 10);
            x.step(21);
        }
        Check.sameDouble("P21 mean of the good ones", x.meanGood(), 152.0 / 3.0);
        x.setTare(5);
        x.put(60, 10);
        x.step(21);
        x.setTare(-2);
        x.put(90, 10);
        x.step(21);
        x.put(90, 200);
        x.step(21);
        // 55 is good too; the errors are 0, 0, 0, 0, -5, 2; the last item has none
        Check.sameDouble("P21 with a tare", x.meanGood(), 207.0 / 4.0);
        Check.sameDouble("P22 without sign", x.meanError(), 7.0 / 6.0);
    }
}
