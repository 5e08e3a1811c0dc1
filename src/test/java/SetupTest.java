/** Promises 1 to 8: a new object, the text buffer, load, its errors, report and gate. */
final class SetupTest {
    private static final String BELT = "belt 10 100 200 400;";

    public static void main(String[] args) {
        newObject();
        append();
        truncate();
        load();
        loadBeginsAnew();
        loadForgetsOldSettings();
        loadForgetsOldItems();
        failedLoadKeepsAll();
        unexpectedTokens();
        numbersOutOfRange();
        edgesOfNumbers();
        repeatedWords();
        tooManyVibrations();
        firstErrorCounts();
        report();
        gate();
        Check.finish("SetupTest");
    }

    private static void newObject() {
        CheckWeigher x = new CheckWeigher();
        int[] due = {0, 10, 0, 0, 0, 9999, 20, 0, 0, 0, 0, 0};
        for (int what = 0; what < due.length; what++) {
            Check.same("P1 report(" + what + ")", x.report(what), due[what]);
        }
        Check.same("P1 errorCode", x.errorCode(), 0);
        Check.same("P1 errorPosition", x.errorPosition(), CheckWeigher.NONE);
        Check.refusesIndex("P1 empty buffer", () -> x.truncate(1));
        Check.same("P1 table", x.samplesFor(100), 1);
        Check.same("P1 table too short", x.samplesFor(101), 0);
        Check.same("P1 put", x.put(50, 40), 0);
        x.step(29);
        Check.same("P1 on the belt at 290", x.count(1), 1);
        x.step(1);
        Check.same("P1 off the belt at 300", x.count(2), 1);
        Check.same("P1 measured", x.measured(0), 50);
        Check.same("P1 append", x.append(0, 0, 0, 0, 0), 20);
        Check.same("P1 NONE", CheckWeigher.NONE, -1);
    }

    private static void append() {
        CheckWeigher x = new CheckWeigher();
        // "belt 7 100 200 300; "
        Check.same("P2 bytes", x.append(0x62656c74, 0x20372031, 0x30302032, 0x30302033, 0x30303b20), 20);
        Check.same("P2 load", x.load(), 0);
        Check.same("P2 speed", x.report(1), 7);
        for (int i = 1; i <= 25; i++) {
            Check.same("P2 length", x.append(i, -i, 1 << 31, 255, -1), 20 * i);
        }
        Check.refusesState("P2 beyond 500", () -> x.append(0, 0, 0, 0, 0));
        Check.same("P2 nothing changed", x.truncate(500), 500);
        x.truncate(481);
        Check.refusesState("P2 501", () -> x.append(0, 0, 0, 0, 0));
        x.truncate(480);
        Check.same("P2 500", x.append(0, 0, 0, 0, 0), 500);
        x.truncate(3);
        Check.same("P2 from 3", x.append(0, 0, 0, 0, 0), 23);
    }

    private static void truncate() {
        CheckWeigher x = new CheckWeigher();
        Check.same("P3 empty", x.truncate(0), 0);
        Check.write(x, BELT + "x");
        Check.refusesIndex("P3 negative", () -> x.truncate(-1));
        Check.refusesIndex("P3 greater", () -> x.truncate(22));
        Check.same("P3 same", x.truncate(21), 21);
        Check.same("P3 shorter", x.truncate(20), 20);
        Check.refusesIndex("P3 it is cut", () -> x.truncate(21));
        Check.same("P3 load without x", x.load(), 0);
    }

    private static void load() {
        CheckWeigher x = new CheckWeigher();
        Check.write(x, BELT + "gate over 300 0;\ngate\nunder 301 50 ; gate unsteady 399 1;");
        Check.same("P4 gates", x.load(), 3);
        Check.same("P4 buffer is empty", x.append(0, 0, 0, 0, 0), 20);
        x.truncate(0);
        Check.write(x, " \n belt10 100 200 400;vibration5 4 3;limits3 0004;notch on;window9; ");
        Check.same("P4 no blanks", x.load(), 0);
        Check.same("P4 high", x.report(5), 4);
        Check.same("P4 window", x.report(6), 8);
    }

    private static void loadBeginsAnew() {
        CheckWeigher x = Check.loaded(BELT + "gate under 250 0;limits 10 20;zero 1;confirm 2;");
        x.put(5, 10);
        x.step(30);
        Check.same("P4 one is confirmed", x.gate(0, 4), 1);
        x.sensor(0, true);
        x.put(5, 10);
        x.step(30);
        Check.same("P4 one is an alarm", x.gate(0, 5), 1);
        x.put(5, 10);
        x.step(25);
        Check.same("P4 one waits", x.report(10), 1);
        x.put(5, 10);
        x.jam(0, true);
        x.setLimits(1, 2);
        x.setTare(5);
        Check.write(x, BELT + "gate under 250 0;");
        Check.same("P4 again", x.load(), 1);
        int[] due = {0, 10, 0, 1, 0, 9999, 20, 0, 0, 0, 0, 0};
        for (int what = 0; what < due.length; what++) {
            Check.same("P4 report(" + what + ")", x.report(what), due[what]);
        }
        for (int what = 3; what <= 8; what++) {
            Check.same("P4 gate(" + what + ")", x.gate(0, what), 0);
        }
        for (int state = 0; state <= 5; state++) {
            Check.same("P4 count", x.count(state), 0);
        }
        for (int kind = 0; kind <= 3; kind++) {
            Check.same("P4 decided", x.decided(kind), 0);
        }
        Check.same("P4 openTicks", x.openTicks(0), 0);
        Check.refusesElement("P4 sample", () -> x.sample(0));
        Check.refusesIndex("P4 item", () -> x.item(0, 0));
        Check.same("P4 put", x.put(1, 1), 0);
        Check.same("P4 new item is whole", x.item(0, 6), CheckWeigher.NONE);
        Check.same("P4 no samples", x.item(0, 4), 0);
    }

    /** Two loads with every setting, since the program may use the room of an older one again. */
    private static void loadForgetsOldSettings() {
        CheckWeigher x = new CheckWeigher();
        for (int i = 0; i < 2; i++) {
            Check.write(x, BELT + "vibration 900 6 0;gate under 250 3;limits 10 20;window 6;notch on;steady 1;"
                + "least 9;drift 9 2;zero 3;confirm 1;");
            Check.same("P4 all settings", x.load(), 1);
            Check.write(x, BELT + "gate over 250 0;zero 1;?");
            Check.refusesArgument("P4 wrong", x::load);
        }
        Check.write(x, BELT + "vibration 5 6 0;gate over 250 0;gate under 300 0;");
        Check.same("P4 gates", x.load(), 2);
        x.put(7000, 11);
        x.step(15);
        int[] due = {15, 10, 1, 2, 0, 9999, 20, 0, 1, 1, 0, 0};
        for (int what = 0; what < due.length; what++) {
            Check.same("P4 plain report(" + what + ")", x.report(what), due[what]);
        }
        Check.same("P4 no drift", x.sample(10), -5);
        x.setLimits(0, 10);
        x.step(10);
        Check.same("P4 diverted", x.item(0, 3), 3);
        Check.same("P4 measured with all samples", x.measured(0), (7000 * 9 + 5 * 3) / 9);
        x.step(4);
        Check.same("P4 waits", x.report(10), 1);
        x.step(1);
        Check.same("P4 confirmed after five ticks", x.gate(0, 4), 1);
    }

    private static void loadForgetsOldItems() {
        CheckWeigher x = Check.loaded(BELT + "gate unsteady 250 0;confirm 9;");
        x.put(50, 20);
        x.step(2);
        x.put(60, 20);
        x.step(26);
        Check.same("P4 disturbed and diverted", x.count(3), 2);
        Check.write(x, BELT + "gate unsteady 250 0;confirm 9;zero 6;");
        x.load();
        x.step(3);
        Check.same("P4 three empty ticks are not six", x.report(7), 0);
        x.put(70, 2000);
        for (int what = 2; what < 6; what++) {
            Check.same("P4 new item(" + what + ")", x.item(0, what), 0);
        }
        for (int what = 6; what < 10; what++) {
            Check.same("P4 new item(" + what + ")", x.item(0, what), CheckWeigher.NONE);
        }
        x.step(19);
        Check.same("P4 closed", x.gate(0, 6), 0);
        Check.same("P4 nothing waits", x.report(10), 0);
        Check.same("P4 nothing commanded", x.openTicks(0), 0);
        x.step(2);
        Check.same("P4 decision", x.item(0, 8), 24);
        Check.refusesElement("P4 no measured weight", () -> x.measured(0));
    }

    private static void failedLoadKeepsAll() {
        CheckWeigher x = Check.loaded(BELT + "gate under 250 3;limits 10 20;least 2;");
        x.put(5, 10);
        x.step(30);
        x.setTare(5);
        Check.write(x, "belt 20 1 2 3;gate over 9 9;");
        Check.refusesArgument("P4 wrong", x::load);
        Check.same("P4 code", x.errorCode(), 2);
        Check.same("P4 position", x.errorPosition(), 24);
        int[] due = {30, 10, 0, 1, 10, 20, 20, 5, 1, 0, 0, 0};
        for (int what = 0; what < due.length; what++) {
            Check.same("P4 kept report(" + what + ")", x.report(what), due[what]);
        }
        Check.same("P4 kept gate", x.gate(0, 1), 250);
        Check.same("P4 kept table", x.samplesFor(100), 1);
    }

    private static void error(String text, int code, int position) {
        CheckWeigher x = new CheckWeigher();
        Check.write(x, text);
        Check.refusesArgument("P4 " + text, x::load);
        Check.same("P5 " + text, x.errorCode(), code);
        Check.same("P6 " + text, x.errorPosition(), position);
        Check.refusesIndex("P4 buffer is empty after " + text, () -> x.truncate(1));
    }

    /** An error in what stands behind the belt; the position counts from there. */
    private static void errorBehind(String rest, int code, int position) {
        error(BELT + rest, code, BELT.length() + position);
    }

    private static void fits(String rest) {
        CheckWeigher x = new CheckWeigher();
        Check.write(x, BELT + rest);
        x.load();
        Check.same("P5 " + rest, x.errorCode(), 0);
        Check.same("P6 " + rest, x.errorPosition(), CheckWeigher.NONE);
    }

    private static void unexpectedTokens() {
        error("", 1, 0);
        error("  \n", 1, 3);
        error("belt", 1, 4);
        error("bel 10 100 200 300;", 1, 0);
        error("felt 10 100 200 300;", 1, 0);
        errorBehind("hero 1;", 1, 0);
        error("beltx 10 100 200 300;", 1, 0);
        error("Belt 10 100 200 300;", 1, 0);
        error("belt 10 100 200 300", 1, 19);
        error("belt 10 100 200 300  ", 1, 21);
        error("belt 10 100 200;", 1, 15);
        error("belt 10 100 200 300 400;", 1, 20);
        error("belt 00010 100 200 300;", 1, 5);
        error("belt 10 10000 200 300;", 1, 8);
        error("belt\t10 100 200 300;", 1, 4);
        error("belt 10 100 200 300;\r", 1, 20);
        error("belt 10 100 200 300;\0", 1, 20);
        error("belt 10 100 200 300;\u00e9", 1, 20);
        error("belt 10 100 200 300;`", 1, 20);
        error("belt 10 100 200 300;{", 1, 20);
        error("belt -1 100 200 300;", 1, 5);
        error("belt 10: 100 200 300;", 1, 7);
        error("belt 10/ 100 200 300;", 1, 7);
        errorBehind(";", 1, 0);
        errorBehind("7", 1, 0);
        errorBehind("belt", 1, 0);
        errorBehind("vibrations 1 2 0;", 1, 0);
        errorBehind("vibration 1 2 ;", 1, 14);
        errorBehind("vibration 1 2 0 gate", 1, 16);
        errorBehind("gate good 300 0;", 1, 5);
        errorBehind("gate 300 0;", 1, 5);
        errorBehind("gate under over;", 1, 11);
        errorBehind("gate under 300;", 1, 14);
        errorBehind("gate over 300 0;vibration 1 2 0;", 1, 16);
        errorBehind("zero 1;gate over 300 0;", 1, 7);
        errorBehind("zero 1;vibration 1 2 0;", 1, 7);
        errorBehind("limits 1;", 1, 8);
        errorBehind("limits 1 2 3;", 1, 11);
        errorBehind("notch;", 1, 5);
        errorBehind("notch under;", 1, 6);
        errorBehind("notch 1;", 1, 6);
        errorBehind("notch on", 1, 8);
        errorBehind("window;", 1, 6);
        errorBehind("under;", 1, 0);
    }

    private static void numbersOutOfRange() {
        error("belt 0 100 200 300;", 2, 5);
        error("belt 101 100 200 300;", 2, 5);
        error("belt 10 0 200 300;", 2, 8);
        error("belt 10 2001 2100 3000;", 2, 8);
        error("belt 10 100 100 300;", 2, 12);
        error("belt 10 100 4001 9000;", 2, 12);
        error("belt 10 100 200 200;", 2, 16);
        error("belt 10 100 200 9001;", 2, 16);
        errorBehind("vibration 0 2 0;", 2, 10);
        errorBehind("vibration 1000 2 0;", 2, 10);
        errorBehind("vibration 1 0 0;", 2, 12);
        errorBehind("vibration 1 3 0;", 2, 12);
        errorBehind("vibration 1 42 0;", 2, 12);
        errorBehind("vibration 1 41 0;", 2, 12);
        errorBehind("vibration 1 2 2;", 2, 14);
        errorBehind("gate under 200 0;", 2, 11);
        errorBehind("gate under 400 0;", 2, 11);
        errorBehind("gate under 300 51;", 2, 15);
        errorBehind("gate under 300 0;gate over 300 0;", 2, 27);
        errorBehind("limits 3 2;", 2, 9);
        errorBehind("window 0;", 2, 7);
        errorBehind("window 61;", 2, 7);
        errorBehind("least 0;", 2, 6);
        errorBehind("least 61;", 2, 6);
        errorBehind("drift 100 1;", 2, 6);
        errorBehind("drift 1 0;", 2, 8);
        errorBehind("drift 1 1000;", 2, 8);
        errorBehind("zero 61;", 2, 5);
        errorBehind("confirm 0;", 2, 8);
        errorBehind("confirm 100;", 2, 8);
        error("belt 10 100 200 201;gate under 201 0;", 2, 31);
    }

    private static void edgesOfNumbers() {
        Check.same("P4 least belt", Check.loaded("belt 1 1 2 3;").report(1), 1);
        Check.same("P4 greatest belt", Check.loaded("belt 100 2000 4000 9000;").report(1), 100);
        fits("vibration 1 2 0;vibration 999 40 39;vibration 0001 0002 0001;vibration 7 8 7;");
        fits("gate under 201 0;gate over 202 50;gate unsteady 399 1;");
        fits("limits 0 0;window 1;notch off;steady 0;least 1;drift 0 1;zero 0;confirm 1;");
        fits("confirm 99;zero 60;drift 99 999;least 60;steady 9999;notch on;window 60;limits 9999 9999;");
    }

    private static void repeatedWords() {
        errorBehind("gate under 300 0;gate under 310 0;", 3, 22);
        errorBehind("gate under 300 0;gate over 310 0;gate unsteady 320 0;gate over 330 0;", 3, 58);
        String[] settings = {"limits 1 2;", "window 3;", "notch on;", "steady 4;", "least 5;", "drift 6 7;",
            "zero 8;", "confirm 9;"};
        for (String one : settings) {
            errorBehind(one + one, 3, one.length());
            errorBehind(one + "x;", 1, one.length());
        }
        errorBehind("zero 0;zero", 3, 7);
    }

    private static void tooManyVibrations() {
        String four = "vibration 1 2 0;".repeat(4);
        fits(four);
        errorBehind(four + "vibration 1 2 0;", 4, 64);
        errorBehind(four + "vibration", 4, 64);
        errorBehind(four + "zero 1;vibration", 1, 71);
    }

    private static void firstErrorCounts() {
        errorBehind("vibration 0 3 9;gate good", 2, 10);
        errorBehind("zero 0;zero 99;?", 3, 7);
        error("belt 101 100 200 ?", 2, 5);
        CheckWeigher x = new CheckWeigher();
        Check.write(x, "belt 0");
        Check.refusesArgument("P4 first", x::load);
        Check.write(x, BELT);
        x.load();
        Check.same("P5 error is gone", x.errorCode(), 0);
        Check.same("P6 error is gone", x.errorPosition(), CheckWeigher.NONE);
    }

    private static void report() {
        CheckWeigher x = Check.loaded("belt 5 100 200 400;vibration 9 6 0;vibration 1 4 0;"
            + "gate under 250 2;gate over 260 0;limits 10 20;window 30;notch on;confirm 2;drift 7 1;zero 1;");
        x.sensor(0, true);
        Check.same("P7 window", x.report(6), 24);
        x.setTare(4);
        x.put(3, 50);
        x.step(20);
        x.put(4000, 50);
        x.step(3);
        // front 115, so the latest tick with an empty table is 20: 140 + 9 + 1
        int[] due = {23, 5, 2, 2, 10, 20, 24, 140 + 9 + 1, 2, 2, 0, 0};
        for (int what = 0; what < due.length; what++) {
            Check.same("P7 report(" + what + ")", x.report(what), due[what]);
        }
        x.step(28);
        Check.same("P7 one decided and one undecided", x.report(9), 2);
        Check.refusesArgument("P7 -1", () -> x.report(-1));
        Check.refusesArgument("P7 12", () -> x.report(12));
    }

    private static void gate() {
        CheckWeigher x = Check.loaded("belt 10 100 200 400;gate under 250 2;gate unsteady 260 0;gate over 300 7;"
            + "limits 50 60;confirm 3;");
        int[][] due = {{0, 250, 2, 0, 0, 0, 0, 0, 0}, {3, 260, 0, 0, 0, 0, 0, 0, 0}, {2, 300, 7, 0, 0, 0, 0, 0, 0}};
        for (int gate = 0; gate < 3; gate++) {
            for (int what = 0; what < 9; what++) {
                Check.same("P8 gate(" + gate + ", " + what + ")", x.gate(gate, what), due[gate][what]);
            }
        }
        x.put(40, 40);
        x.step(24);
        Check.same("P8 closed at 24", x.gate(0, 6), 0);
        x.step(1);
        Check.same("P8 open at 25", x.gate(0, 6), 1);
        Check.same("P8 diverted", x.gate(0, 3), 1);
        Check.same("P8 others not", x.gate(1, 3) + x.gate(2, 3), 0);
        x.jam(0, true);
        Check.same("P8 jammed is not open", x.gate(0, 6), 0);
        Check.same("P8 jammed", x.gate(0, 7), 1);
        x.jam(0, false);
        Check.same("P8 open again", x.gate(0, 6), 1);
        x.step(2);
        Check.same("P8 waits", x.gate(0, 4), 0);
        Check.same("P7 waits", x.report(10), 1);
        x.sensor(1, true);
        Check.same("P8 fails", x.gate(1, 8), 1);
        x.step(1);
        Check.same("P8 open at 28", x.gate(0, 6), 1);
        Check.same("P8 confirmed", x.gate(0, 4), 1);
        Check.same("P8 no alarm", x.gate(0, 5), 0);
        x.step(1);
        Check.same("P8 closed at 29", x.gate(0, 6), 0);
        Check.refusesIndex("P8 no gate 3", () -> x.gate(3, 0));
        Check.refusesIndex("P8 no gate -1", () -> x.gate(-1, 99));
        Check.refusesArgument("P8 what -1", () -> x.gate(0, -1));
        Check.refusesArgument("P8 what 9", () -> x.gate(0, 9));
    }
}
