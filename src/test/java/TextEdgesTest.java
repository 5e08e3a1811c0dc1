/** The edges that the document names for the text buffer and the setup (promises 1 to 6). */
final class TextEdgesTest {
    private static final String BELT = "belt 10 100 200 400;";
    private static final String[] FULL = {"belt", "10", "100", "200", "400", ";", "vibration", "5", "4", "3", ";",
        "gate", "under", "250", "0", ";", "gate", "over", "300", "50", ";", "gate", "unsteady", "399", "1", ";",
        "limits", "3", "5", ";", "window", "7", ";", "notch", "on", ";", "steady", "9", ";", "least", "2", ";",
        "drift", "1", "2", ";", "zero", "3", ";", "confirm", "4", ";"};
    private static final String[] SETTINGS = {"limits 0 1;", "window 3;", "notch off;", "steady 4;", "least 5;",
        "drift 6 7;", "zero 8;", "confirm 9;"};
    private static final String[] CLASSES = {"under", "over", "unsteady"};

    public static void main(String[] args) {
        newObject();
        emptyBuffer();
        fullBuffer();
        lastAppendThatFits();
        refusedAppendKeepsTheText();
        refusedTruncateKeepsTheText();
        cutTextIsGone();
        bytesOfArguments();
        bufferIsEmptyAfterLoad();
        noErrorBeforeLoad();
        latestLoadCounts();
        textOfFiveHundred();
        everyByteBehind();
        everyByteAsBlank();
        blanksAnywhere();
        longestTokens();
        fourDigits();
        everyEnd();
        everyWrongToken();
        rangesOfBelt();
        rangesOfVibration();
        periods();
        rangesOfGate();
        gatesWithoutRoom();
        rangesOfSettings();
        withoutSettings();
        numberOfVibrations();
        classesOfGates();
        settingsOnce();
        lowestCodeAtOnePosition();
        firstErrorFromTheLeft();
        Check.finish("TextEdgesTest");
    }

    private static CheckWeigher takes(String text) {
        CheckWeigher x = new CheckWeigher();
        Check.write(x, text);
        try {
            x.load();
        } catch (IllegalArgumentException e) {
            Check.same("P4 takes " + text, false, true);
        }
        Check.same("P5 no error in " + text, x.errorCode(), 0);
        Check.same("P6 no error in " + text, x.errorPosition(), CheckWeigher.NONE);
        return x;
    }

    private static void refuses(String text, int code, int position) {
        CheckWeigher x = new CheckWeigher();
        Check.write(x, text);
        Check.refusesArgument("P4 refuses " + text, x::load);
        Check.same("P5 " + text, x.errorCode(), code);
        Check.same("P6 " + text, x.errorPosition(), position);
    }

    /** The text "belt 10 100 200 300;", seen at its edges. */
    private static void newObject() {
        CheckWeigher x = new CheckWeigher();
        Check.same("P1 the gates", x.report(3), 0);
        Check.same("P1 as long as the table", x.samplesFor(100), 1);
        Check.same("P1 longer than the table", x.samplesFor(101), 0);
        Check.same("P1 ten ticks in part", x.spacing(10), 100);
        Check.same("P1 eleven ticks in part", x.spacing(11), 110);
        x.put(100, 10);
        x.step(10);
        Check.same("P1 the front at 100", x.sample(0), 0);
        x.step(1);
        Check.same("P1 the front at 110", x.item(0, 4), 1);
        x.step(9);
        Check.same("P1 the front at 200", x.item(0, 4), 10);
        Check.same("P1 not decided there", x.item(0, 3), 0);
        x.step(1);
        Check.same("P1 the rear at 200", x.sample(0), 0);
        Check.same("P1 decided", x.item(0, 3), 1);
        x.step(8);
        Check.same("P1 the front at 290", x.item(0, 3), 1);
        x.step(1);
        Check.same("P1 the front at 300", x.item(0, 3), 2);
        Check.same("P1 good without limits", x.decided(1), 1);
        Check.same("P1 no tare", x.report(7), 0);
    }

    private static void emptyBuffer() {
        CheckWeigher x = new CheckWeigher();
        Check.refusesIndex("P3 1 of 0", () -> x.truncate(1));
        Check.refusesIndex("P3 -1 of 0", () -> x.truncate(-1));
        Check.refusesIndex("P3 the least int", () -> x.truncate(Integer.MIN_VALUE));
        Check.refusesIndex("P3 the greatest int", () -> x.truncate(Integer.MAX_VALUE));
        Check.same("P3 0 of 0", x.truncate(0), 0);
        refuses("", 1, 0);
    }

    private static void fullBuffer() {
        CheckWeigher x = new CheckWeigher();
        for (int i = 1; i <= 25; i++) {
            Check.same("P2 new length", x.append(0, 0, 0, 0, 0), 20 * i);
        }
        Check.refusesState("P2 520", () -> x.append(0, 0, 0, 0, 0));
        Check.refusesIndex("P3 501 of 500", () -> x.truncate(501));
        Check.same("P3 500 of 500", x.truncate(500), 500);
        Check.same("P3 499 of 500", x.truncate(499), 499);
        Check.refusesIndex("P3 500 of 499", () -> x.truncate(500));
        Check.same("P3 0 of 499", x.truncate(0), 0);
        Check.same("P2 from 0 again", x.append(0, 0, 0, 0, 0), 20);
    }

    private static void lastAppendThatFits() {
        CheckWeigher x = new CheckWeigher();
        Check.write(x, " ".repeat(481));
        Check.refusesState("P2 501", () -> x.append(0, 0, 0, 0, 0));
        Check.same("P2 still 481", x.truncate(481), 481);
        Check.refusesIndex("P2 not 482", () -> x.truncate(482));
        x.truncate(480);
        Check.same("P2 500", x.append(0, 0, 0, 0, 0), 500);
    }

    private static void refusedAppendKeepsTheText() {
        CheckWeigher x = new CheckWeigher();
        Check.write(x, "belt 7 100 200 400;" + " ".repeat(470));
        Check.refusesState("P2 509", () -> x.append(-1, -1, -1, -1, -1));
        Check.same("P4 the text stands", x.load(), 0);
        Check.same("P4 the text stands", x.report(1), 7);
        Check.write(x, "belt 7 100 200 400;" + " ".repeat(480));
        Check.refusesState("P2 519", () -> x.append(-1, -1, -1, -1, -1));
        Check.same("P4 the text of 499 stands", x.load(), 0);
    }

    private static void refusedTruncateKeepsTheText() {
        CheckWeigher x = new CheckWeigher();
        Check.write(x, BELT + "window 9;");
        Check.refusesIndex("P3 negative", () -> x.truncate(-1));
        Check.refusesIndex("P3 greater", () -> x.truncate(30));
        Check.same("P4 the text stands", x.load(), 0);
        Check.same("P4 the text stands", x.report(6), 9);
    }

    private static void cutTextIsGone() {
        CheckWeigher x = new CheckWeigher();
        Check.write(x, BELT + "window 9;");
        x.truncate(20);
        x.append(0x20202020, 0x20202020, 0x20202020, 0x20202020, 0x20202020);
        Check.same("P3 what was cut is not read", x.load(), 0);
        Check.same("P3 what was cut is not read", x.report(6), 20);
        Check.write(x, BELT + "window 9;");
        x.truncate(28);
        Check.refusesArgument("P3 the last byte is cut", x::load);
        Check.same("P6 the end is where it was cut", x.errorPosition(), 28);
    }

    /** Each argument's four bytes in order, the most significant one first, without a sign. */
    private static void bytesOfArguments() {
        CheckWeigher x = new CheckWeigher();
        // "belt 12 345 678 901;"
        x.append(0x62656c74, 0x20313220, 0x33343520, 0x36373820, 0x3930313b);
        Check.same("P2 all five", x.load(), 0);
        Check.same("P2 12", x.report(1), 12);
        // 678 - 345 over 12: the fronts 348 to 672
        Check.same("P2 345 and 678", x.samplesFor(1), 28);
        x.put(5, 5);
        x.step(75);
        Check.same("P2 901: on the belt at 900", x.item(0, 3), 1);
        x.step(1);
        Check.same("P2 901: off it at 912", x.item(0, 3), 2);
        int[] signs = {0xa0202020, 0x20a02020, 0x2020a020, 0x202020a0};
        for (int i = 0; i < 4; i++) {
            Check.write(x, BELT);
            x.append(signs[i], 0x20202020, 0x20202020, 0x20202020, 0x20202020);
            Check.refusesArgument("P2 160 is no blank", x::load);
            Check.same("P2 byte " + i, x.errorPosition(), 20 + i);
        }
    }

    private static void bufferIsEmptyAfterLoad() {
        CheckWeigher x = new CheckWeigher();
        Check.write(x, BELT);
        x.load();
        Check.refusesIndex("P4 empty after a setup", () -> x.truncate(1));
        Check.write(x, BELT + "?");
        Check.refusesArgument("P4 an error", x::load);
        Check.refusesIndex("P4 empty after an error", () -> x.truncate(1));
        Check.refusesArgument("P4 the empty text", x::load);
        Check.same("P5 the empty text", x.errorCode(), 1);
        Check.same("P6 the empty text", x.errorPosition(), 0);
        Check.same("P4 room for 20", x.append(0, 0, 0, 0, 0), 20);
    }

    private static void noErrorBeforeLoad() {
        CheckWeigher x = new CheckWeigher();
        Check.same("P5 no call yet", x.errorCode(), 0);
        Check.same("P6 no call yet", x.errorPosition(), -1);
        x.append(-1, -1, -1, -1, -1);
        Check.same("P5 still none", x.errorCode(), 0);
        Check.same("P6 still none", x.errorPosition(), -1);
    }

    private static void latestLoadCounts() {
        CheckWeigher x = new CheckWeigher();
        Check.write(x, "belt 0 100 200 400;");
        Check.refusesArgument("P4 speed 0", x::load);
        Check.same("P5 first", x.errorCode(), 2);
        Check.same("P6 first", x.errorPosition(), 5);
        x.append(-1, -1, -1, -1, -1);
        x.truncate(0);
        Check.same("P5 it stays", x.errorCode(), 2);
        Check.same("P6 it stays", x.errorPosition(), 5);
        Check.write(x, BELT + "zero 0;zero 0;");
        Check.refusesArgument("P4 zero again", x::load);
        Check.same("P5 second", x.errorCode(), 3);
        Check.same("P6 second", x.errorPosition(), 27);
        Check.write(x, BELT);
        x.load();
        Check.same("P5 none", x.errorCode(), 0);
        Check.same("P6 none", x.errorPosition(), -1);
    }

    private static void textOfFiveHundred() {
        String blanks = " ".repeat(500 - 20 - 7);
        Check.same("P4 the last byte is read", takes(BELT + blanks + "zero 0;").report(1), 10);
        refuses(BELT + blanks + "zero 0?", 1, 499);
        refuses(BELT + blanks + " zero 0", 1, 500);
        refuses(" ".repeat(500), 1, 500);
        refuses(" ".repeat(499) + "b", 1, 499);
        refuses("7".repeat(500), 1, 0);
        refuses("b".repeat(500), 1, 0);
    }

    private static void everyByteBehind() {
        for (int sign = 0; sign < 256; sign++) {
            if (sign == 10 || sign == 32) {
                takes(BELT + (char) sign);
            } else {
                refuses(BELT + (char) sign, 1, 20);
            }
        }
    }

    /** A letter makes the word longer, a digit the number; all others start no token. */
    private static void everyByteAsBlank() {
        for (int sign = 0; sign < 256; sign++) {
            String text = "belt" + (char) sign + "10 100 200 400;";
            if (sign == 10 || sign == 32 || sign == '0') {
                takes(text);
            } else if (sign >= 'a' && sign <= 'z') {
                refuses(text, 1, 0);
            } else if (sign >= '1' && sign <= '9') {
                refuses(text, 2, 4);
            } else {
                refuses(text, 1, 4);
            }
        }
    }

    private static void blanksAnywhere() {
        String[] blanks = {" ", "\n", "\n \n", "    "};
        for (String blank : blanks) {
            Check.same("P4 blanks", takes(blank + String.join(blank, FULL) + blank).report(3), 3);
        }
        Check.same("P4 no blanks", takes("belt10 100 200 400;vibration5 4 3;gate under250 0;notch on;").report(3), 1);
        refuses("bel t 10 100 200 400;", 1, 0);
        refuses("belt 1 0 100 200 400;", 2, 7);
    }

    private static void longestTokens() {
        refuses("beltbelt 10 100 200 400;", 1, 0);
        refuses(BELT + "notchon;", 1, 20);
        refuses(BELT + "notch onoff;", 1, 26);
        refuses(BELT + "gateunder 300 0;", 1, 20);
        refuses(BELT + "gate underover 300 0;", 1, 25);
        refuses(BELT + "window 12zero 5;", 1, 29);
        refuses(BELT + "window;12;", 1, 26);
        refuses(BELT + "zero 1;;", 1, 27);
        takes(BELT + "window12;zero5;");
    }

    private static void fourDigits() {
        Check.same("P4 four digits", takes("belt 0010 0100 0200 9000;").report(1), 10);
        refuses("belt 00010 100 200 400;", 1, 5);
        refuses("belt 10 100 200 00400;", 1, 16);
        Check.same("P4 0000", takes(BELT + "limits 0000 9999;").report(4), 0);
        refuses(BELT + "limits 00000 9999;", 1, 27);
        refuses(BELT + "limits 0 10000;", 1, 29);
        refuses(BELT + "limits 0 123456789012345678901234567890;", 1, 29);
        refuses(BELT + "limits 0 4294967297;", 1, 29);
    }

    /** The text may end behind each ";" and nowhere else; the end stands at the text's length. */
    private static void everyEnd() {
        StringBuilder text = new StringBuilder();
        refuses(" \n", 1, 2);
        for (String token : FULL) {
            text.append(text.length() == 0 ? "" : " ").append(token);
            if (token.equals(";")) {
                takes(text.toString());
                takes(text + " \n");
            } else {
                refuses(text.toString(), 1, text.length());
                refuses(text + " \n", 1, text.length() + 2);
            }
        }
    }

    private static void everyWrongToken() {
        String[] wrong = {"x", "belt", ";", "7", "?", "12345", "-", "good"};
        StringBuilder before = new StringBuilder();
        for (String token : FULL) {
            for (String other : wrong) {
                boolean isNumber = token.charAt(0) >= '0' && token.charAt(0) <= '9';
                if (!other.equals(token) && !(isNumber && other.equals("7"))) {
                    refuses(before + other + " " + token, 1, before.length());
                }
            }
            before.append(token).append(' ');
        }
    }

    /** The numbers from least to most are taken between the two parts, their neighbours are not. */
    private static void range(String before, int least, int most, String behind) {
        takes(before + least + behind);
        takes(before + most + behind);
        if (least > 0) {
            refuses(before + (least - 1) + behind, 2, before.length());
            refuses(before + 0 + behind, 2, before.length());
        }
        refuses(before + (most + 1) + behind, most == 9999 ? 1 : 2, before.length());
        if (most < 9999) {
            refuses(before + 9999 + behind, 2, before.length());
        }
    }

    private static void rangesOfBelt() {
        range("belt ", 1, 100, " 100 200 400;");
        range("belt 10 ", 1, 2000, " 2001 9000;");
        range("belt 10 100 ", 101, 4000, " 9000;");
        range("belt 10 2000 ", 2001, 4000, " 9000;");
        range("belt 10 100 200 ", 201, 9000, ";");
        range("belt 10 1 4000 ", 4001, 9000, ";");
        Check.same("P4 the least speed", takes("belt 1 100 200 400;").report(1), 1);
        Check.same("P4 the greatest speed", takes("belt 100 100 200 400;").report(1), 100);
        Check.same("P4 the shortest table", takes("belt 1 1 2 3;").samplesFor(1), 1);
        Check.same("P4 the longest table", takes("belt 1 1 4000 9000;").samplesFor(1), 3999);
        Check.same("P4 the last table", takes("belt 1 2000 4000 9000;").samplesFor(2000), 1);
    }

    private static void rangesOfVibration() {
        range(BELT + "vibration ", 1, 999, " 40 39;");
        range(BELT + "vibration 5 2 ", 0, 1, ";");
        range(BELT + "vibration 5 8 ", 0, 7, ";");
        range(BELT + "vibration 5 40 ", 0, 39, ";");
        Check.same("P4 the least amplitude", takes(BELT + "vibration 1 2 0;").vibration(0), 1);
        Check.same("P4 the greatest amplitude", takes(BELT + "vibration 999 2 0;").vibration(0), 999);
    }

    private static void periods() {
        for (int period = 0; period <= 50; period++) {
            String text = BELT + "vibration 5 " + period + " 0;";
            if (period >= 2 && period <= 40 && period % 2 == 0) {
                takes(text);
            } else {
                refuses(text, 2, 32);
            }
        }
        refuses(BELT + "vibration 5 9999 0;", 2, 32);
        refuses(BELT + "vibration 5 9998 0;", 2, 32);
    }

    private static void rangesOfGate() {
        for (String one : CLASSES) {
            range(BELT + "gate " + one + " ", 201, 399, " 0;");
            range(BELT + "gate " + one + " 300 ", 0, 50, ";");
        }
        range(BELT + "gate over 201 0;gate under ", 202, 399, " 0;");
        range(BELT + "gate over 300 0;gate under ", 301, 399, " 0;");
        range(BELT + "gate over 300 0;gate under 320 50;gate unsteady ", 321, 399, " 50;");
        CheckWeigher x = takes(BELT + "gate over 201 0;gate under 399 50;");
        Check.same("P8 the first position", x.gate(0, 1), 201);
        Check.same("P8 the least reaction time", x.gate(0, 2), 0);
        Check.same("P8 the last position", x.gate(1, 1), 399);
        Check.same("P8 the greatest reaction time", x.gate(1, 2), 50);
    }

    private static void gatesWithoutRoom() {
        String near = "belt 10 100 200 201;gate under ";
        refuses(near + "200 0;", 2, near.length());
        refuses(near + "201 0;", 2, near.length());
        Check.same("P4 room for one", takes("belt 10 100 200 202;gate under 201 0;").gate(0, 1), 201);
        String second = BELT + "gate under 399 0;gate over ";
        refuses(second + "399 0;", 2, second.length());
        refuses(second + "400 0;", 2, second.length());
    }

    private static void rangesOfSettings() {
        range(BELT + "limits ", 0, 9999, " 9999;");
        range(BELT + "limits 0 ", 0, 9999, ";");
        range(BELT + "limits 500 ", 500, 9999, ";");
        range(BELT + "limits 9999 ", 9999, 9999, ";");
        range(BELT + "window ", 1, 60, ";");
        range(BELT + "steady ", 0, 9999, ";");
        range(BELT + "least ", 1, 60, ";");
        range(BELT + "drift ", 0, 99, " 1;");
        range(BELT + "drift 1 ", 1, 999, ";");
        range(BELT + "zero ", 0, 60, ";");
        range(BELT + "confirm ", 1, 99, ";");
        Check.same("P7 the least window", takes(BELT + "window 1;").report(6), 1);
        Check.same("P7 the greatest window", takes(BELT + "window 60;").report(6), 60);
        CheckWeigher x = takes(BELT + "limits 9999 9999;");
        Check.same("P7 the greatest limits", x.report(4) + x.report(5), 2 * 9999);
        CheckWeigher y = takes(BELT + "limits 0 0;");
        Check.same("P7 the least limits", y.report(4) + y.report(5), 0);
    }

    private static void withoutSettings() {
        CheckWeigher x = takes(BELT);
        Check.same("P7 least weight", x.report(4), 0);
        Check.same("P7 greatest weight", x.report(5), 9999);
        Check.same("P7 window", x.report(6), 20);
        Check.same("P7 notch is off", takes(BELT + "vibration 1 6 0;").report(6), 20);
        Check.same("P7 window with notch", takes(BELT + "vibration 1 6 0;notch on;").report(6), 18);
        Check.same("P7 notch off", takes(BELT + "vibration 1 6 0;notch off;").report(6), 20);
    }

    private static void numberOfVibrations() {
        for (int number = 0; number <= 4; number++) {
            String text = BELT + "vibration 1 2 0;".repeat(number);
            Check.same("P7 vibrations", takes(text).report(2), number);
            Check.same("P23 all of them count", takes(text).vibration(0), number);
        }
        String four = BELT + "vibration 1 2 0;".repeat(4);
        refuses(four + "vibration 1 2 0;", 4, four.length());
        refuses(four + " vibration", 4, four.length() + 1);
        refuses(four + "vibration 0 3 9;", 4, four.length());
        refuses(four + "vibrations", 1, four.length());
    }

    private static void classesOfGates() {
        int[] numbers = {0, 2, 3};
        for (int a = 0; a < 3; a++) {
            Check.same("P8 class", takes(BELT + "gate " + CLASSES[a] + " 300 0;").gate(0, 0), numbers[a]);
            for (int b = 0; b < 3; b++) {
                String text = BELT + "gate " + CLASSES[a] + " 300 0;gate ";
                if (a != b) {
                    Check.same("P4 two gates", takes(text + CLASSES[b] + " 301 0;").report(3), 2);
                    takes(text + CLASSES[b] + " 301 0;gate " + CLASSES[3 - a - b] + " 302 0;");
                } else {
                    refuses(text + CLASSES[b] + " 301 0;", 3, text.length());
                }
            }
        }
        String three = BELT + "gate under 300 0;gate over 301 0;gate unsteady 302 0;gate ";
        for (String one : CLASSES) {
            refuses(three + one + " 303 0;", 3, three.length());
            refuses(three + one, 3, three.length());
        }
    }

    private static void settingsOnce() {
        for (int a = 0; a < 8; a++) {
            takes(BELT + SETTINGS[a]);
            for (int b = 0; b < 8; b++) {
                String two = BELT + SETTINGS[a] + SETTINGS[b];
                if (a == b) {
                    refuses(two, 3, BELT.length() + SETTINGS[a].length());
                } else {
                    takes(two);
                    refuses(two + SETTINGS[a], 3, two.length());
                }
            }
        }
        String all = BELT + String.join("", SETTINGS);
        takes(all);
        for (String one : SETTINGS) {
            refuses(all + one.substring(0, one.indexOf(' ')), 3, all.length());
        }
    }

    /** Where a token that cannot stand there is also one that was there before, it has code 1. */
    private static void lowestCodeAtOnePosition() {
        refuses(BELT + "zero 5;limits zero 5;", 1, 34);
        refuses(BELT + "notch on;notch", 3, 29);
        refuses(BELT + "gate under 300 0;gate over under 0;", 1, 47);
        refuses(BELT + "gate under 300 0;under", 1, 37);
        String four = BELT + "vibration 1 2 0;".repeat(4);
        refuses(four + "gate under 300 0;vibration 1 2 0;", 1, four.length() + 17);
        refuses(four + "gate vibration 300 0;", 1, four.length() + 5);
        refuses(four + "zero 1;vibration 1 2 0;", 1, four.length() + 7);
        refuses(BELT + "vibration 1 2 0;".repeat(3) + "vibration 1 2 vibration", 1, 20 + 3 * 16 + 14);
        refuses("belt 12345 100 200 400;", 1, 5);
        refuses(BELT + "vibration 5 00003 0;", 1, 32);
    }

    private static void firstErrorFromTheLeft() {
        refuses("belt 0 0 0 0", 2, 5);
        refuses("belt 10 0 0 0?", 2, 8);
        refuses(BELT + "zero 61;zero 0;", 2, 25);
        refuses(BELT + "zero 0;zero 61;", 3, 27);
        refuses(BELT + "gate under 200 51?", 2, 31);
        refuses(BELT + "gate x 200 51", 1, 25);
        refuses(BELT + "vibration 5 3 99 99", 2, 32);
        refuses(" \n " + BELT + " \n zero  61 ; zero 0;", 2, 32);
    }
}
