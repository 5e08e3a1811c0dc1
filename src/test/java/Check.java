/** What the tests share: comparing, expecting exceptions, loading texts. */
final class Check {
    private static int wrong = 0;
    private static int made = 0;

    private Check() {
    }

    interface Call {
        void run();
    }

    static void same(String what, long got, long want) {
        made++;
        if (got != want) {
            wrong++;
            System.out.println(what + ": answered " + got + ", due is " + want);
        }
    }

    static void same(String what, boolean got, boolean want) {
        same(what, got ? 1 : 0, want ? 1 : 0);
    }

    static void sameDouble(String what, double got, double want) {
        made++;
        if (got != want) {
            wrong++;
            System.out.println(what + ": answered " + got + ", due is " + want);
        }
    }

    static void refuses(String what, Class<? extends RuntimeException> due, Call call) {
        made++;
        Class<?> got = null;
        try {
            call.run();
        } catch (RuntimeException e) {
            got = e.getClass();
        }
        if (got != due) {
            wrong++;
            System.out.println(what + ": threw " + got + ", due is " + due);
        }
    }

    static void refusesArgument(String what, Call call) {
        refuses(what, IllegalArgumentException.class, call);
    }

    static void refusesIndex(String what, Call call) {
        refuses(what, IndexOutOfBoundsException.class, call);
    }

    static void refusesState(String what, Call call) {
        refuses(what, IllegalStateException.class, call);
    }

    static void refusesElement(String what, Call call) {
        refuses(what, java.util.NoSuchElementException.class, call);
    }

    /** Fills the text buffer, which has to be empty, with the text. */
    static void write(CheckWeigher x, String text) {
        int length = text.length();
        for (int i = 0; i < length; i += 20) {
            x.append(four(text, i), four(text, i + 4), four(text, i + 8), four(text, i + 12), four(text, i + 16));
        }
        x.truncate(length);
    }

    private static int four(String text, int from) {
        int value = 0;
        for (int i = from; i < from + 4; i++) {
            value = value << 8 | (i < text.length() ? text.charAt(i) & 255 : ' ');
        }
        return value;
    }

    static CheckWeigher loaded(String text) {
        CheckWeigher x = new CheckWeigher();
        write(x, text);
        x.load();
        return x;
    }

    /** Lets more ticks go by than one call allows. */
    static void stepTo(CheckWeigher x, int time) {
        while (x.report(0) < time) {
            x.step(Math.min(500, time - x.report(0)));
        }
    }

    static void finish(String name) {
        System.out.println(name + ": " + made + " checks, " + wrong + " wrong");
        if (wrong != 0 || made == 0) {
            System.exit(1);
        }
    }
}
