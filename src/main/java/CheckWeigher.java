import java.util.NoSuchElementException;

/** A checkweigher, simulated tick by tick; ../shared/DOC.md says what each method promises. */
public final class CheckWeigher {
    public static final int NONE = -1;

    private static final int MOST_TEXT = 500;
    private static final int BYTES_A_CALL = 20;
    private static final int MOST_TICKS = 500;
    private static final int LAST_TIME = 20000;
    private static final int MOST_WEIGHT = 9999;
    private static final int MOST_LENGTH = 2000;
    private static final int MOST_ITEMS = 60;
    private static final int MOST_SAMPLES = 60;
    private static final int MOST_VIBRATIONS = 4;
    private static final int MOST_GATES = 3;
    private static final int FIRST_TICKS = 1680;

    /** With a speed of 1 and a belt of 9000 no item rides longer than this. */
    private static final int MOST_RIDE = 9000;

    private static final int UNDER = 0;
    private static final int GOOD = 1;
    private static final int OVER = 2;
    private static final int UNSTEADY = 3;

    private static final int UNDECIDED = 0;
    private static final int DECIDED = 1;
    private static final int PASSED = 2;
    private static final int DIVERTED = 3;
    private static final int FALSE_REJECT = 4;
    private static final int MISSED = 5;

    private static final int UNEXPECTED = 1;
    private static final int OUT_OF_RANGE = 2;
    private static final int REPEATED = 3;
    private static final int TOO_MANY = 4;

    private final int[] text = new int[MOST_TEXT];
    private int textLength = 0;
    private int lastErrorCode = 0;
    private int lastErrorPosition = NONE;
    private Setup setup = new Setup();
    private Setup spareSetup = new Setup();
    private final Reader reader = new Reader(text, spareSetup);
    private final Line line = new Line(setup);
    private final Line forecast = new Line(setup);
    private final ResidueTable residues = new ResidueTable(setup.vibrations);

    public CheckWeigher() {
    }

    // ---- the setup

    public int append(int a, int b, int c, int d, int e) throws IllegalStateException {
        if (textLength + BYTES_A_CALL > MOST_TEXT) {
            throw new IllegalStateException();
        }
        addBytes(a);
        addBytes(b);
        addBytes(c);
        addBytes(d);
        addBytes(e);
        return textLength;
    }

    private void addBytes(int four) {
        for (int shift = 24; shift >= 0 && textLength < MOST_TEXT; shift -= 8) {
            text[textLength] = (four >>> shift) & 255;
            textLength++;
        }
    }

    public int truncate(int length) throws IndexOutOfBoundsException {
        if (length < 0 || length > textLength) {
            throw new IndexOutOfBoundsException();
        }
        textLength = length;
        return textLength;
    }

    public int load() throws IllegalArgumentException {
        reader.read(textLength, spareSetup);
        textLength = 0;
        lastErrorCode = reader.errorFound;
        lastErrorPosition = reader.errorStart;
        if (lastErrorCode != 0) {
            throw new IllegalArgumentException();
        }
        Setup old = setup;
        setup = spareSetup;
        spareSetup = old;
        line.begin(setup);
        residues.begin(setup.vibrations);
        return setup.gateNumber;
    }

    public int errorCode() {
        return lastErrorCode;
    }

    public int errorPosition() {
        return lastErrorPosition;
    }

    public int report(int what) throws IllegalArgumentException {
        switch (what) {
            case 0: return line.time;
            case 1: return setup.speed;
            case 2: return setup.vibrations.number;
            case 3: return setup.gateNumber;
            case 4: return line.low;
            case 5: return line.high;
            case 6: return setup.windowInUse();
            case 7: return line.tare;
            case 8: return line.itemNumber;
            case 9: return line.itemsIn(UNDECIDED) + line.itemsIn(DECIDED);
            case 10: return line.waiting;
            case 11: return line.allAlarms();
            default: throw new IllegalArgumentException();
        }
    }

    public int gate(int gate, int what) throws IndexOutOfBoundsException, IllegalArgumentException {
        if (!setup.hasGate(gate)) {
            throw new IndexOutOfBoundsException();
        }
        switch (what) {
            case 0: return setup.gateKind[gate];
            case 1: return setup.gatePosition[gate];
            case 2: return setup.gateReaction[gate];
            case 3: return line.diverted[gate];
            case 4: return line.confirmed[gate];
            case 5: return line.alarms[gate];
            case 6: return line.isOpen(gate) ? 1 : 0;
            case 7: return line.jammed[gate] ? 1 : 0;
            case 8: return line.failing[gate] ? 1 : 0;
            default: throw new IllegalArgumentException();
        }
    }

    // ---- running

    public int put(int weight, int length) throws IllegalArgumentException, IllegalStateException {
        if (weight < 1 || weight > MOST_WEIGHT || !isLength(length)) {
            throw new IllegalArgumentException();
        }
        if (!line.hasRoom()) {
            throw new IllegalStateException();
        }
        return line.add(weight, length);
    }

    public int step(int ticks) throws IllegalArgumentException, IllegalStateException {
        if (ticks < 1 || ticks > MOST_TICKS) {
            throw new IllegalArgumentException();
        }
        if (line.time + ticks > LAST_TIME) {
            throw new IllegalStateException();
        }
        int before = line.decisions;
        for (int i = 0; i < ticks; i++) {
            line.tick();
        }
        return line.decisions - before;
    }

    public boolean jam(int gate, boolean isJammed) throws IndexOutOfBoundsException {
        if (!setup.hasGate(gate)) {
            throw new IndexOutOfBoundsException();
        }
        boolean changes = line.jammed[gate] != isJammed;
        line.jammed[gate] = isJammed;
        return changes;
    }

    public boolean sensor(int gate, boolean fails) throws IndexOutOfBoundsException {
        if (!setup.hasGate(gate)) {
            throw new IndexOutOfBoundsException();
        }
        boolean changes = line.failing[gate] != fails;
        line.failing[gate] = fails;
        return changes;
    }

    public void setLimits(int low, int high) throws IllegalArgumentException {
        if (low < 0 || low > MOST_WEIGHT || high < low || high > MOST_WEIGHT) {
            throw new IllegalArgumentException();
        }
        line.low = low;
        line.high = high;
    }

    public int setTare(int tare) throws IllegalArgumentException {
        if (tare < -MOST_WEIGHT || tare > MOST_WEIGHT) {
            throw new IllegalArgumentException();
        }
        int previous = line.tare;
        line.tare = tare;
        return previous;
    }

    // ---- items and samples

    public int item(int item, int what) throws IndexOutOfBoundsException, IllegalArgumentException {
        Item it = line.find(item);
        if (it == null) {
            throw new IndexOutOfBoundsException();
        }
        switch (what) {
            case 0: return it.weight;
            case 1: return it.length;
            case 2: return it.front;
            case 3: return it.state;
            case 4: return it.kept;
            case 5: return it.isDisturbed ? 1 : 0;
            case 6: return it.kind;
            case 7: return it.target;
            case 8: return it.decidedAt;
            case 9: return it.leftAt;
            default: throw new IllegalArgumentException();
        }
    }

    public int measured(int item) throws IndexOutOfBoundsException, NoSuchElementException {
        Item it = line.find(item);
        if (it == null) {
            throw new IndexOutOfBoundsException();
        }
        if (!it.hasResult) {
            throw new NoSuchElementException();
        }
        return it.result;
    }

    public int sampleOf(int item, int index) throws IndexOutOfBoundsException {
        Item it = line.find(item);
        if (it == null || index < 0 || index >= it.kept) {
            throw new IndexOutOfBoundsException();
        }
        return it.keptAt(index);
    }

    public int sample(int ago) throws IllegalArgumentException, NoSuchElementException {
        if (ago < 0 || ago >= MOST_SAMPLES) {
            throw new IllegalArgumentException();
        }
        if (ago >= line.time) {
            throw new NoSuchElementException();
        }
        return line.cellAt(ago);
    }

    public int count(int state) throws IllegalArgumentException {
        if (state < UNDECIDED || state > MISSED) {
            throw new IllegalArgumentException();
        }
        return line.itemsIn(state);
    }

    public int decided(int kind) throws IllegalArgumentException {
        if (kind < UNDER || kind > UNSTEADY) {
            throw new IllegalArgumentException();
        }
        return line.itemsOf(kind);
    }

    public double meanGood() throws NoSuchElementException {
        int number = line.itemsOf(GOOD);
        if (number == 0) {
            throw new NoSuchElementException();
        }
        return (double) line.sumOfGood() / (double) number;
    }

    public double meanError() throws NoSuchElementException {
        int number = line.itemsWithResult();
        if (number == 0) {
            throw new NoSuchElementException();
        }
        return (double) line.sumOfErrors() / (double) number;
    }

    // ---- questions about windows and vibrations

    public int vibration(int tick) throws IllegalArgumentException {
        if (tick < 0 || tick > LAST_TIME) {
            throw new IllegalArgumentException();
        }
        return setup.vibrations.valueAt(tick);
    }

    public int residue(int window, int part) throws IllegalArgumentException {
        if (!isWindow(window) || part < 0 || part > 1) {
            throw new IllegalArgumentException();
        }
        int sum = residues.worstSum(window);
        int divisor = commonDivisor(sum, window);
        return quotient(part == 0 ? sum : window, divisor);
    }

    public int bestWindow(int most) throws IllegalArgumentException {
        if (!isWindow(most)) {
            throw new IllegalArgumentException();
        }
        int best = 1;
        for (int window = 2; window <= most; window++) {
            // a / b <= c / d without division
            if (residues.worstSum(window) * best <= residues.worstSum(best) * window) {
                best = window;
            }
        }
        return best;
    }

    public int weightWith(int item, int window)
            throws IndexOutOfBoundsException, IllegalArgumentException, NoSuchElementException {
        Item it = line.find(item);
        if (it == null) {
            throw new IndexOutOfBoundsException();
        }
        if (!isWindow(window)) {
            throw new IllegalArgumentException();
        }
        if (it.kept == 0) {
            throw new NoSuchElementException();
        }
        return it.meanOfLatest(window) - line.tare;
    }

    public int samplesFor(int length) throws IllegalArgumentException {
        if (!isLength(length)) {
            throw new IllegalArgumentException();
        }
        return setup.ticksAsWhole(length);
    }

    // ---- questions about timing

    public int arrival(int item, int gate) throws IndexOutOfBoundsException, NoSuchElementException {
        Item it = line.find(item);
        if (it == null || !setup.hasGate(gate)) {
            throw new IndexOutOfBoundsException();
        }
        if (!it.rides() || it.front >= setup.gatePosition[gate]) {
            throw new NoSuchElementException();
        }
        return setup.ticksFor(setup.gatePosition[gate] - it.front);
    }

    public int openTicks(int gate) throws IndexOutOfBoundsException {
        if (!setup.hasGate(gate)) {
            throw new IndexOutOfBoundsException();
        }
        return line.commandedTicks(gate);
    }

    public int opensAt(int gate) throws IndexOutOfBoundsException, NoSuchElementException {
        if (!setup.hasGate(gate)) {
            throw new IndexOutOfBoundsException();
        }
        int first = line.firstCommanded(gate);
        if (first == NONE) {
            throw new NoSuchElementException();
        }
        return first;
    }

    public int fate(int item) throws IndexOutOfBoundsException {
        Item it = line.find(item);
        if (it == null) {
            throw new IndexOutOfBoundsException();
        }
        if (!it.rides()) {
            return it.state;
        }
        forecast.copyFrom(line);
        for (int i = 0; i < MOST_RIDE && forecast.rides(item); i++) {
            forecast.tick();
        }
        return forecast.stateOf(item);
    }

    public int spacing(int length) throws IllegalArgumentException {
        if (!isLength(length)) {
            throw new IllegalArgumentException();
        }
        // The items ride in step, so one follows the other when it comes to the table
        // as many ticks later as an item is on it in part.
        int ticks = Math.max(setup.ticksInPart(length), setup.ticksFor(length));
        return ticks * setup.speed;
    }

    // ---- small helpers

    private static boolean isLength(int length) {
        return length >= 1 && length <= MOST_LENGTH;
    }

    private static boolean isWindow(int window) {
        return window >= 1 && window <= MOST_SAMPLES;
    }

    private static int quotient(int a, int b) {
        return b == 0 ? 0 : a / b;
    }

    private static int remainder(int a, int b) {
        return b == 0 ? 0 : a % b;
    }

    /** Rounded up; for a greater than -b, and b positive. */
    private static int quotientUp(int a, int b) {
        return b == 0 ? 0 : (a + b - 1) / b;
    }

    private static int commonDivisor(int a, int b) {
        int x = a;
        int y = b;
        // Euclid's algorithm on ints needs fewer than 50 rounds.
        for (int i = 0; i < 50 && y != 0; i++) {
            int rest = remainder(x, y);
            x = y;
            y = rest;
        }
        return x;
    }

    /** The vibrations of a setup. */
    private static final class Vibrations {
        int number = 0;
        final int[] amplitude = new int[MOST_VIBRATIONS];
        final int[] period = new int[MOST_VIBRATIONS];
        final int[] shift = new int[MOST_VIBRATIONS];

        void add(int newAmplitude, int newPeriod, int newShift) {
            if (number >= MOST_VIBRATIONS) {
                return;
            }
            amplitude[number] = newAmplitude;
            period[number] = newPeriod;
            shift[number] = newShift;
            number++;
        }

        int valueAt(int tick) {
            int sum = 0;
            for (int i = 0; i < number; i++) {
                boolean isFirstHalf = remainder(tick + shift[i], period[i]) < period[i] / 2;
                sum += isFirstHalf ? amplitude[i] : -amplitude[i];
            }
            return sum;
        }

        boolean cancelIn(int window) {
            for (int i = 0; i < number; i++) {
                if (remainder(window, period[i]) != 0) {
                    return false;
                }
            }
            return true;
        }
    }

    /** What a text sets up, and what follows from it alone. */
    private static final class Setup {
        int speed;
        int tableBegin;
        int tableEnd;
        int beltEnd;
        final Vibrations vibrations = new Vibrations();
        int gateNumber;
        final int[] gateKind = new int[MOST_GATES];
        final int[] gatePosition = new int[MOST_GATES];
        final int[] gateReaction = new int[MOST_GATES];
        int low;
        int high;
        int window;
        boolean isNotched;
        int steady;
        int least;
        int driftAmount;
        int driftTicks;
        int zero;
        int confirm;

        Setup() {
            reset();
        }

        void reset() {
            speed = 10;
            tableBegin = 100;
            tableEnd = 200;
            beltEnd = 300;
            vibrations.number = 0;
            gateNumber = 0;
            low = 0;
            high = MOST_WEIGHT;
            window = 20;
            isNotched = false;
            steady = 9999;
            least = 1;
            driftAmount = 0;
            driftTicks = 1;
            zero = 0;
            confirm = 5;
        }

        boolean hasGate(int gate) {
            return gate >= 0 && gate < gateNumber;
        }

        void addGate(int kind, int position, int reaction) {
            if (gateNumber >= MOST_GATES) {
                return;
            }
            gateKind[gateNumber] = kind;
            gatePosition[gateNumber] = position;
            gateReaction[gateNumber] = reaction;
            gateNumber++;
        }

        int gateFor(int kind) {
            for (int gate = 0; gate < gateNumber; gate++) {
                if (gateKind[gate] == kind) {
                    return gate;
                }
            }
            return NONE;
        }

        /** The next gate, and so the end of the belt, has to stand behind this. */
        int lastPosition() {
            return gateNumber == 0 ? tableEnd : gatePosition[gateNumber - 1];
        }

        int windowInUse() {
            if (isNotched) {
                for (int size = window; size >= 1; size--) {
                    if (vibrations.cancelIn(size)) {
                        return size;
                    }
                }
            }
            return window;
        }

        int loadCellAlone(int tick) {
            return quotient(driftAmount * tick, driftTicks) + vibrations.valueAt(tick);
        }

        int lengthOnTable(int front, int length) {
            return Math.min(front, tableEnd) - Math.max(front - length, tableBegin);
        }

        boolean isInPart(int front, int length) {
            return front > tableBegin && front - length < tableEnd;
        }

        boolean isAsWhole(int front, int length) {
            return front - length >= tableBegin && front <= tableEnd;
        }

        /** The least number of ticks in which the belt moves by the distance, which is greater than -speed. */
        int ticksFor(int distance) {
            return quotientUp(distance, speed);
        }

        int ticksAsWhole(int length) {
            int first = quotientUp(tableBegin + length, speed);
            int last = quotient(tableEnd, speed);
            return Math.max(0, last - first + 1);
        }

        int ticksInPart(int length) {
            int first = quotient(tableBegin, speed) + 1;
            int last = quotient(tableEnd + length - 1, speed);
            return Math.max(0, last - first + 1);
        }
    }

    /** Reads a text as a setup and keeps its first error; behind an error nothing is read. */
    private static final class Reader {
        private static final int END = 0;
        private static final int WORD = 1;
        private static final int NUMBER = 2;
        private static final int SEMICOLON = 3;
        private static final int WRONG = 4;
        private static final int MOST_DIGITS = 4;

        private static final int LIMITS = 0;
        private static final int WINDOW = 1;
        private static final int NOTCH = 2;
        private static final int STEADY = 3;
        private static final int LEAST = 4;
        private static final int DRIFT = 5;
        private static final int ZERO = 6;
        private static final int CONFIRM = 7;

        private final int[] bytes;
        private int length = 0;
        private Setup draft;
        private int token = END;
        private int start = 0;
        private int end = 0;
        private int seen = 0;
        int errorFound = 0;
        int errorStart = NONE;

        Reader(int[] bytes, Setup draft) {
            this.bytes = bytes;
            this.draft = draft;
        }

        void read(int textLength, Setup newDraft) {
            length = Math.min(textLength, bytes.length);
            draft = newDraft;
            draft.reset();
            end = 0;
            seen = 0;
            errorFound = 0;
            errorStart = NONE;
            advance();
            readBelt();
            readVibrations();
            readGates();
            readSettings();
        }

        private void readBelt() {
            readWord("belt");
            draft.speed = readNumber(1, 100);
            draft.tableBegin = readNumber(1, 2000);
            draft.tableEnd = readNumber(draft.tableBegin + 1, 4000);
            draft.beltEnd = readNumber(draft.tableEnd + 1, 9000);
            readSemicolon();
        }

        private void readVibrations() {
            for (int i = 0; i < MOST_TEXT && isAt("vibration"); i++) {
                if (draft.vibrations.number >= MOST_VIBRATIONS) {
                    fail(TOO_MANY);
                    return;
                }
                advance();
                int amplitude = readNumber(1, 999);
                int period = readPeriod();
                int shift = readNumber(0, period - 1);
                readSemicolon();
                draft.vibrations.add(amplitude, period, shift);
            }
        }

        private int readPeriod() {
            if (token == NUMBER && value() % 2 != 0) {
                fail(OUT_OF_RANGE);
            }
            return readNumber(2, 40);
        }

        private void readGates() {
            for (int i = 0; i < MOST_TEXT && isAt("gate"); i++) {
                advance();
                int kind = readKind();
                int position = readNumber(draft.lastPosition() + 1, draft.beltEnd - 1);
                int reaction = readNumber(0, 50);
                readSemicolon();
                draft.addGate(kind, position, reaction);
            }
        }

        private int readKind() {
            int kind = kindAt();
            if (kind == NONE) {
                fail(UNEXPECTED);
            } else if (draft.gateFor(kind) != NONE) {
                fail(REPEATED);
            }
            advance();
            return kind;
        }

        private int kindAt() {
            if (isAt("under")) {
                return UNDER;
            }
            if (isAt("over")) {
                return OVER;
            }
            return isAt("unsteady") ? UNSTEADY : NONE;
        }

        private void readSettings() {
            for (int i = 0; i < MOST_TEXT && errorFound == 0 && token != END; i++) {
                int setting = settingAt();
                if (setting == NONE) {
                    fail(UNEXPECTED);
                    return;
                }
                if ((seen & (1 << setting)) != 0) {
                    fail(REPEATED);
                    return;
                }
                seen |= 1 << setting;
                advance();
                readSetting(setting);
                readSemicolon();
            }
        }

        private int settingAt() {
            if (isAt("limits")) {
                return LIMITS;
            }
            if (isAt("window")) {
                return WINDOW;
            }
            if (isAt("notch")) {
                return NOTCH;
            }
            if (isAt("steady")) {
                return STEADY;
            }
            if (isAt("least")) {
                return LEAST;
            }
            if (isAt("drift")) {
                return DRIFT;
            }
            if (isAt("zero")) {
                return ZERO;
            }
            return isAt("confirm") ? CONFIRM : NONE;
        }

        private void readSetting(int setting) {
            switch (setting) {
                case LIMITS:
                    draft.low = readNumber(0, MOST_WEIGHT);
                    draft.high = readNumber(draft.low, MOST_WEIGHT);
                    break;
                case WINDOW:
                    draft.window = readNumber(1, MOST_SAMPLES);
                    break;
                case NOTCH:
                    readNotch();
                    break;
                case STEADY:
                    draft.steady = readNumber(0, 9999);
                    break;
                case LEAST:
                    draft.least = readNumber(1, MOST_SAMPLES);
                    break;
                case DRIFT:
                    draft.driftAmount = readNumber(0, 99);
                    draft.driftTicks = readNumber(1, 999);
                    break;
                case ZERO:
                    draft.zero = readNumber(0, MOST_SAMPLES);
                    break;
                default:
                    draft.confirm = readNumber(1, 99);
                    break;
            }
        }

        private void readNotch() {
            draft.isNotched = isAt("on");
            if (!draft.isNotched && !isAt("off")) {
                fail(UNEXPECTED);
            }
            advance();
        }

        private void readWord(String word) {
            if (!isAt(word)) {
                fail(UNEXPECTED);
            }
            advance();
        }

        private void readSemicolon() {
            if (token != SEMICOLON) {
                fail(UNEXPECTED);
            }
            advance();
        }

        /** Returns the number, or the least one behind an error. */
        private int readNumber(int least, int most) {
            int number = least;
            if (token != NUMBER) {
                fail(UNEXPECTED);
            } else if (value() < least || value() > most) {
                fail(OUT_OF_RANGE);
            } else {
                number = value();
            }
            advance();
            return number;
        }

        private void fail(int code) {
            if (errorFound == 0) {
                errorFound = code;
                errorStart = start;
            }
        }

        private boolean isAt(String word) {
            if (errorFound != 0 || token != WORD || end - start != word.length()) {
                return false;
            }
            for (int i = 0; i < word.length(); i++) {
                if (byteAt(start + i) != word.charAt(i)) {
                    return false;
                }
            }
            return true;
        }

        private int value() {
            int value = 0;
            for (int i = start; i < end; i++) {
                value = value * 10 + byteAt(i) - '0';
            }
            return value;
        }

        private void advance() {
            if (errorFound != 0) {
                return;
            }
            start = end;
            while (start < length && isBlank(byteAt(start))) {
                start++;
            }
            end = start;
            if (start >= length) {
                token = END;
            } else if (isLetter(byteAt(start))) {
                token = WORD;
                while (end < length && isLetter(byteAt(end))) {
                    end++;
                }
            } else if (isDigit(byteAt(start))) {
                while (end < length && isDigit(byteAt(end))) {
                    end++;
                }
                token = end - start <= MOST_DIGITS ? NUMBER : WRONG;
            } else {
                token = byteAt(start) == ';' ? SEMICOLON : WRONG;
                end++;
            }
        }

        private int byteAt(int index) {
            return index >= 0 && index < length ? bytes[index] : 0;
        }

        private static boolean isBlank(int sign) {
            return sign == 10 || sign == 32;
        }

        private static boolean isLetter(int sign) {
            return sign >= 'a' && sign <= 'z';
        }

        private static boolean isDigit(int sign) {
            return sign >= '0' && sign <= '9';
        }
    }

    /** The greatest sums that vibrations reach in windows, worked out when they are first asked for. */
    private static final class ResidueTable {
        private Vibrations vibrations;
        private boolean hasSums;
        private final int[] sumBefore = new int[FIRST_TICKS + MOST_SAMPLES];
        private final int[] worst = new int[MOST_SAMPLES + 1];

        ResidueTable(Vibrations vibrations) {
            begin(vibrations);
        }

        void begin(Vibrations newVibrations) {
            vibrations = newVibrations;
            hasSums = false;
            for (int i = 0; i < worst.length; i++) {
                worst[i] = NONE;
            }
        }

        int worstSum(int window) {
            if (!isWindow(window)) {
                return 0;
            }
            if (worst[window] == NONE) {
                addUp();
                worst[window] = greatestSum(window);
            }
            return worst[window];
        }

        private void addUp() {
            if (hasSums) {
                return;
            }
            sumBefore[0] = 0;
            for (int i = 1; i < sumBefore.length; i++) {
                sumBefore[i] = sumBefore[i - 1] + vibrations.valueAt(i - 1);
            }
            hasSums = true;
        }

        private int greatestSum(int window) {
            int greatest = 0;
            for (int first = 0; first < FIRST_TICKS && first + window < sumBefore.length; first++) {
                greatest = Math.max(greatest, Math.abs(sumBefore[first + window] - sumBefore[first]));
            }
            return greatest;
        }
    }

    /** An item, on the belt or off it. */
    private static final class Item {
        int weight;
        int length;
        int front;
        int state;
        boolean isDisturbed;
        int kind;
        int target;
        int decidedAt;
        int leftAt;
        int openFrom;
        int openTo;
        int awaitedAt;
        boolean hasResult;
        int result;
        int kept;
        private int oldest;
        private final int[] samples = new int[MOST_SAMPLES];

        void begin(int newWeight, int newLength) {
            weight = newWeight;
            length = newLength;
            front = 0;
            state = UNDECIDED;
            isDisturbed = false;
            kind = NONE;
            target = NONE;
            decidedAt = NONE;
            leftAt = NONE;
            openFrom = 0;
            openTo = 0;
            awaitedAt = NONE;
            hasResult = false;
            result = 0;
            kept = 0;
            oldest = 0;
        }

        void copyFrom(Item other) {
            weight = other.weight;
            length = other.length;
            front = other.front;
            state = other.state;
            isDisturbed = other.isDisturbed;
            kind = other.kind;
            target = other.target;
            decidedAt = other.decidedAt;
            leftAt = other.leftAt;
            openFrom = other.openFrom;
            openTo = other.openTo;
            awaitedAt = other.awaitedAt;
            hasResult = other.hasResult;
            result = other.result;
            kept = other.kept;
            oldest = other.oldest;
            System.arraycopy(other.samples, 0, samples, 0, MOST_SAMPLES);
        }

        boolean rides() {
            return state == UNDECIDED || state == DECIDED;
        }

        boolean isCommanding(int gate, int tick) {
            return target == gate && openFrom <= tick && tick < openTo;
        }

        void addSample(int sample) {
            samples[(oldest + kept) % MOST_SAMPLES] = sample;
            if (kept < MOST_SAMPLES) {
                kept++;
            } else {
                oldest = (oldest + 1) % MOST_SAMPLES;
            }
        }

        /** The oldest one that is kept has index 0. */
        int keptAt(int index) {
            return index >= 0 && index < kept ? samples[(oldest + index) % MOST_SAMPLES] : 0;
        }

        int meanOfLatest(int window) {
            int used = Math.min(kept, window);
            int sum = 0;
            for (int i = kept - used; i < kept; i++) {
                sum += keptAt(i);
            }
            return quotient(sum, used);
        }

        int spreadOfLatest(int window) {
            int used = Math.min(kept, window);
            int greatest = keptAt(kept - 1);
            int least = greatest;
            for (int i = kept - used; i < kept; i++) {
                greatest = Math.max(greatest, keptAt(i));
                least = Math.min(least, keptAt(i));
            }
            return greatest - least;
        }
    }

    /** The belt with all that is on it, and its state at one time. */
    private static final class Line {
        private Setup setup;
        int time;
        int low;
        int high;
        int tare;
        int decisions;
        int waiting;
        int itemNumber;
        final boolean[] jammed = new boolean[MOST_GATES];
        final boolean[] failing = new boolean[MOST_GATES];
        final int[] diverted = new int[MOST_GATES];
        final int[] confirmed = new int[MOST_GATES];
        final int[] alarms = new int[MOST_GATES];
        private final Item[] items = new Item[MOST_ITEMS];
        private final int[] cell = new int[MOST_SAMPLES];
        private int firstRiding;
        private int onTable;
        private int emptyTicks;

        Line(Setup setup) {
            for (int i = 0; i < items.length; i++) {
                items[i] = new Item();
            }
            begin(setup);
        }

        void begin(Setup newSetup) {
            setup = newSetup;
            time = 0;
            low = newSetup.low;
            high = newSetup.high;
            tare = 0;
            decisions = 0;
            waiting = 0;
            itemNumber = 0;
            for (int gate = 0; gate < MOST_GATES; gate++) {
                jammed[gate] = false;
                failing[gate] = false;
                diverted[gate] = 0;
                confirmed[gate] = 0;
                alarms[gate] = 0;
            }
            firstRiding = 0;
            onTable = 0;
            emptyTicks = 0;
        }

        /** Copies all that later ticks depend on. */
        void copyFrom(Line other) {
            begin(other.setup);
            time = other.time;
            low = other.low;
            high = other.high;
            tare = other.tare;
            waiting = other.waiting;
            itemNumber = other.itemNumber;
            firstRiding = other.firstRiding;
            emptyTicks = other.emptyTicks;
            System.arraycopy(other.cell, 0, cell, 0, MOST_SAMPLES);
            for (int gate = 0; gate < MOST_GATES; gate++) {
                jammed[gate] = other.jammed[gate];
            }
            for (int i = 0; i < itemNumber; i++) {
                items[i].copyFrom(other.items[i]);
            }
        }

        Item find(int item) {
            return item >= 0 && item < itemNumber ? items[item] : null;
        }

        boolean hasRoom() {
            if (itemNumber >= MOST_ITEMS) {
                return false;
            }
            Item last = find(itemNumber - 1);
            return last == null || !last.rides() || last.front >= last.length;
        }

        int add(int weight, int length) {
            if (itemNumber >= MOST_ITEMS) {
                return NONE;
            }
            items[itemNumber].begin(weight, length);
            itemNumber++;
            return itemNumber - 1;
        }

        void tick() {
            time++;
            moveItems();
            readCell();
            collectSamples();
            decideItems();
            meetGates();
            leaveAtEnd();
            zeroTare();
            confirmDiversions();
        }

        private void moveItems() {
            for (int i = firstRiding; i < itemNumber; i++) {
                if (items[i].rides()) {
                    items[i].front += setup.speed;
                }
            }
        }

        private void readCell() {
            int sum = setup.loadCellAlone(time);
            onTable = 0;
            for (int i = firstRiding; i < itemNumber; i++) {
                Item it = items[i];
                if (it.rides() && setup.isInPart(it.front, it.length)) {
                    onTable++;
                    sum += quotient(it.weight * setup.lengthOnTable(it.front, it.length), it.length);
                }
            }
            cell[time % MOST_SAMPLES] = sum;
        }

        private void collectSamples() {
            for (int i = firstRiding; i < itemNumber; i++) {
                Item it = items[i];
                if (it.rides() && setup.isAsWhole(it.front, it.length)) {
                    if (onTable == 1) {
                        it.addSample(cellAt(0));
                    } else {
                        it.isDisturbed = true;
                    }
                }
            }
        }

        private void decideItems() {
            for (int i = firstRiding; i < itemNumber; i++) {
                if (items[i].state == UNDECIDED && items[i].front > setup.tableEnd) {
                    decide(items[i]);
                }
            }
        }

        private void decide(Item it) {
            int window = setup.windowInUse();
            if (it.kept > 0) {
                it.hasResult = true;
                it.result = it.meanOfLatest(window) - tare;
            }
            it.kind = kindOf(it, window);
            it.state = DECIDED;
            it.decidedAt = time;
            it.target = setup.gateFor(it.kind);
            decisions++;
            if (setup.hasGate(it.target)) {
                command(it, it.target);
            }
        }

        private int kindOf(Item it, int window) {
            if (it.isDisturbed || it.kept < setup.least || it.spreadOfLatest(window) > setup.steady) {
                return UNSTEADY;
            }
            if (it.result < low) {
                return UNDER;
            }
            return it.result > high ? OVER : GOOD;
        }

        private void command(Item it, int gate) {
            int arrives = time + setup.ticksFor(setup.gatePosition[gate] - it.front);
            int from = Math.max(arrives, time + setup.gateReaction[gate]);
            int to = arrives + setup.ticksFor(it.length);
            if (from < to) {
                it.openFrom = from;
                it.openTo = to;
            }
        }

        private void meetGates() {
            for (int i = firstRiding; i < itemNumber; i++) {
                for (int gate = 0; gate < setup.gateNumber && items[i].rides(); gate++) {
                    if (comesTo(items[i], setup.gatePosition[gate]) && isOpen(gate)) {
                        divert(items[i], gate);
                    }
                }
            }
        }

        private boolean comesTo(Item it, int position) {
            return it.front >= position && it.front - setup.speed < position;
        }

        private void divert(Item it, int gate) {
            it.state = it.target == gate ? DIVERTED : FALSE_REJECT;
            it.leftAt = time;
            it.awaitedAt = gate;
            diverted[gate]++;
            waiting++;
        }

        private void leaveAtEnd() {
            for (int i = firstRiding; i < itemNumber; i++) {
                Item it = items[i];
                if (it.rides() && it.front >= setup.beltEnd) {
                    it.state = it.target == NONE ? PASSED : MISSED;
                    it.leftAt = time;
                }
            }
            while (firstRiding < itemNumber && !items[firstRiding].rides()) {
                firstRiding++;
            }
        }

        private void zeroTare() {
            emptyTicks = onTable == 0 ? emptyTicks + 1 : 0;
            if (setup.zero == 0 || emptyTicks < setup.zero) {
                return;
            }
            int sum = 0;
            for (int ago = 0; ago < setup.zero; ago++) {
                sum += cellAt(ago);
            }
            tare = quotient(sum, setup.zero);
        }

        private void confirmDiversions() {
            for (int i = 0; i < itemNumber && waiting > 0; i++) {
                Item it = items[i];
                if (setup.hasGate(it.awaitedAt) && time - it.leftAt >= setup.confirm) {
                    if (failing[it.awaitedAt]) {
                        alarms[it.awaitedAt]++;
                    } else {
                        confirmed[it.awaitedAt]++;
                    }
                    it.awaitedAt = NONE;
                    waiting--;
                }
            }
        }

        int cellAt(int ago) {
            return ago >= 0 && ago < time ? cell[(time - ago) % MOST_SAMPLES] : 0;
        }

        boolean isOpen(int gate) {
            return !jammed[gate] && isCommanded(gate, time);
        }

        private boolean isCommanded(int gate, int tick) {
            for (int i = 0; i < itemNumber; i++) {
                if (items[i].isCommanding(gate, tick)) {
                    return true;
                }
            }
            return false;
        }

        int allAlarms() {
            int sum = 0;
            for (int gate = 0; gate < setup.gateNumber; gate++) {
                sum += alarms[gate];
            }
            return sum;
        }

        int itemsIn(int state) {
            int number = 0;
            for (int i = 0; i < itemNumber; i++) {
                if (items[i].state == state) {
                    number++;
                }
            }
            return number;
        }

        int itemsOf(int kind) {
            int number = 0;
            for (int i = 0; i < itemNumber; i++) {
                if (items[i].kind == kind) {
                    number++;
                }
            }
            return number;
        }

        int sumOfGood() {
            int sum = 0;
            for (int i = 0; i < itemNumber; i++) {
                if (items[i].kind == GOOD) {
                    sum += items[i].result;
                }
            }
            return sum;
        }

        int itemsWithResult() {
            int number = 0;
            for (int i = 0; i < itemNumber; i++) {
                if (items[i].hasResult) {
                    number++;
                }
            }
            return number;
        }

        int sumOfErrors() {
            int sum = 0;
            for (int i = 0; i < itemNumber; i++) {
                if (items[i].hasResult) {
                    sum += Math.abs(items[i].result - items[i].weight);
                }
            }
            return sum;
        }

        /**
         * Of two items for one gate the one with the lower number is ahead, is decided no later
         * and arrives no later; so the times come in the order in which they begin.
         */
        int commandedTicks(int gate) {
            int number = 0;
            int counted = time + 1;
            for (int i = 0; i < itemNumber; i++) {
                if (items[i].target == gate) {
                    counted = Math.max(counted, items[i].openFrom);
                    number += Math.max(0, items[i].openTo - counted);
                    counted = Math.max(counted, items[i].openTo);
                }
            }
            return number;
        }

        int firstCommanded(int gate) {
            int first = NONE;
            for (int i = 0; i < itemNumber; i++) {
                int from = Math.max(items[i].openFrom, time + 1);
                if (items[i].isCommanding(gate, from) && (first == NONE || from < first)) {
                    first = from;
                }
            }
            return first;
        }

        boolean rides(int item) {
            return item >= 0 && item < itemNumber && items[item].rides();
        }

        int stateOf(int item) {
            return item >= 0 && item < itemNumber ? items[item].state : NONE;
        }
    }
}
