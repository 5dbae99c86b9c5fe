/** A rural telephone switchboard with party lines, cords, trunks, waiting calls and neighbours who listen in. */
public final class CordBoard {
    public static final int NONE = -1;
    public static final int WAITING = 0;
    public static final int TALKING = 1;
    public static final int ENDED = 2;
    public static final int CANCELLED = 3;

    private static final int MAX_LINES = 6;
    private static final int MAX_CORDS = 6;
    private static final int MAX_TRUNKS = 4;
    private static final int MAX_TOLL = 99;
    private static final int MAX_SUBSCRIBERS = 15;
    private static final int MAX_NAME = 6;
    private static final int MAX_RINGS = 5;
    private static final int MAX_CURIOSITY = 9;
    private static final int LISTENING_CURIOSITY = 5;
    private static final int MAX_CALLS = 40;
    private static final int MAX_WAIT = 9999;
    private static final int MAX_CLOCK = 999999;
    private static final int LOCAL_CHARGE = 5;
    private static final int FULL_VOLUME = 100;
    private static final int MAX_INPUT = 700;
    private static final int APPENDED = 20;
    private static final int MAX_UNDO = 8;
    private static final int SLOTS = 2;
    /** Each call writes two names, the sign between them and the space before the next call. */
    private static final int MAX_OUTPUT = MAX_CALLS * (2 * MAX_NAME + 2);
    private static final String FIRST_SETUP = "board 3 2; trunk 20; user ann 0 ss 2; user bea 0 sl 7; user cal 0 l 5; user dot 1 s 0; user eve 1 ll 9; user fay 2 sls 6;";

    private final Board board = new Board();
    private final Reader reader = new Reader();
    private final History history = new History();
    private final Board[] saved = new Board[SLOTS];
    private final boolean[] isSaved = new boolean[SLOTS];
    private final int[] output = new int[MAX_OUTPUT];
    private int outputLength;

    public CordBoard() {
        for (int slot = 0; slot < SLOTS; slot++) {
            saved[slot] = new Board();
        }
        reader.input.fill(FIRST_SETUP);
        reader.startText();
        if (reader.readBoard() && reader.readTrunks() && reader.readSubscribers()) {
            board.copyFrom(reader.trial);
        }
        reader.input.shorten(0);
    }

    // ---- input

    public int append(int a, int b, int c, int d, int e) {
        if (reader.input.length + APPENDED > MAX_INPUT) {
            return NONE;
        }
        reader.input.addFour(a);
        reader.input.addFour(b);
        reader.input.addFour(c);
        reader.input.addFour(d);
        reader.input.addFour(e);
        return reader.input.length;
    }

    public int truncateInput(int length) throws IllegalArgumentException {
        if (length < 0 || length > reader.input.length) {
            throw new IllegalArgumentException("the length is out of range");
        }
        reader.input.shorten(length);
        return length;
    }

    public int load() {
        reader.startText();
        boolean isFine = reader.readBoard() && reader.readTrunks() && reader.readSubscribers()
                && reader.readCommands() != NONE;
        reader.input.shorten(0);
        if (!isFine) {
            return NONE;
        }
        takeTrial();
        return board.subscribers.count;
    }

    public int play() {
        reader.startScript(board);
        int commands = reader.readCommands();
        reader.input.shorten(0);
        if (commands != NONE) {
            takeTrial();
        }
        return commands;
    }

    public int errorCode() {
        return reader.errorCode;
    }

    public int errorOffset() {
        return reader.errorOffset;
    }

    // ---- changes

    public int call(int caller, int other, boolean isUrgent)
            throws IndexOutOfBoundsException, IllegalArgumentException, IllegalStateException {
        requirePair(caller, other);
        requireRoomForCall();
        history.push(board);
        return board.request(caller, other, NONE, isUrgent);
    }

    public int callTrunk(int caller, int trunk, boolean isUrgent)
            throws IndexOutOfBoundsException, IllegalStateException {
        requireSubscriber(caller);
        requireTrunk(trunk);
        requireRoomForCall();
        history.push(board);
        return board.request(caller, NONE, trunk, isUrgent);
    }

    public int end(int number) throws IndexOutOfBoundsException, IllegalStateException {
        requireCall(number);
        if (board.calls.isOver(number)) {
            throw new IllegalStateException("the call is over");
        }
        history.push(board);
        return board.finish(number);
    }

    public int waitFor(int seconds) throws IllegalArgumentException, IllegalStateException {
        if (seconds < 1 || seconds > MAX_WAIT) {
            throw new IllegalArgumentException("the seconds are out of range");
        }
        if (board.clock + seconds > MAX_CLOCK) {
            throw new IllegalStateException("the clock would go too far");
        }
        history.push(board);
        board.clock += seconds;
        return board.clock;
    }

    public int setCuriosity(int subscriber, int curiosity)
            throws IndexOutOfBoundsException, IllegalArgumentException {
        requireSubscriber(subscriber);
        if (curiosity < 0 || curiosity > MAX_CURIOSITY) {
            throw new IllegalArgumentException("the curiosity is out of range");
        }
        history.push(board);
        int previous = board.subscribers.curiosities[subscriber];
        board.subscribers.curiosities[subscriber] = curiosity;
        return previous;
    }

    public int undo() throws IllegalStateException {
        if (history.count == 0) {
            throw new IllegalStateException("there is no change to undo");
        }
        history.popInto(board);
        return history.count;
    }

    public int save(int slot) throws IllegalArgumentException {
        requireSlot(slot);
        saved[slot].copyFrom(board);
        isSaved[slot] = true;
        return board.clock;
    }

    public int restore(int slot) throws IllegalArgumentException, IllegalStateException {
        requireSlot(slot);
        if (!isSaved[slot]) {
            throw new IllegalStateException("nothing is saved in the slot");
        }
        history.push(board);
        board.copyFrom(saved[slot]);
        return board.clock;
    }

    // ---- the board

    public int clock() {
        return board.clock;
    }

    public int lineCount() {
        return board.lineCount;
    }

    public int cordCount() {
        return board.cordCount;
    }

    public int freeCords() {
        return board.unusedCords();
    }

    public int trunkCount() {
        return board.trunkCount;
    }

    public int subscriberCount() {
        return board.subscribers.count;
    }

    public int callCount() {
        return board.calls.count;
    }

    public int waitingCalls() {
        return board.calls.countIn(WAITING);
    }

    public int talkingCalls() {
        return board.calls.countIn(TALKING);
    }

    public int undoableChanges() {
        return history.count;
    }

    public boolean isLineBusy(int line) throws IndexOutOfBoundsException {
        requireLine(line);
        return (board.calls.findBusy() & bit(line)) != 0;
    }

    public boolean isTrunkBusy(int trunk) throws IndexOutOfBoundsException {
        requireTrunk(trunk);
        return (board.calls.findBusy() & trunkBit(trunk)) != 0;
    }

    public int toll(int trunk) throws IndexOutOfBoundsException {
        requireTrunk(trunk);
        return board.tolls[trunk];
    }

    // ---- subscribers

    public int lineOf(int subscriber) throws IndexOutOfBoundsException {
        requireSubscriber(subscriber);
        return board.subscribers.lines[subscriber];
    }

    public int curiosity(int subscriber) throws IndexOutOfBoundsException {
        requireSubscriber(subscriber);
        return board.subscribers.curiosities[subscriber];
    }

    public int bill(int subscriber) throws IndexOutOfBoundsException {
        requireSubscriber(subscriber);
        return board.subscribers.bills[subscriber];
    }

    public int ringCount(int subscriber) throws IndexOutOfBoundsException {
        requireSubscriber(subscriber);
        return ringsIn(board.subscribers.codes[subscriber]);
    }

    public int ringSeconds(int subscriber) throws IndexOutOfBoundsException {
        requireSubscriber(subscriber);
        int code = board.subscribers.codes[subscriber];
        int rings = ringsIn(code);
        int longRings = Integer.bitCount(code) - 1;
        int pauses = rings - 1;
        return rings + 2 * longRings + pauses;
    }

    public int secretsKnown(int subscriber) throws IndexOutOfBoundsException {
        requireSubscriber(subscriber);
        return board.subscribers.secrets[subscriber];
    }

    public int neighbours(int subscriber) throws IndexOutOfBoundsException {
        requireSubscriber(subscriber);
        return board.subscribers.countOn(board.subscribers.lines[subscriber]) - 1;
    }

    public int nameByte(int subscriber, int index) throws IndexOutOfBoundsException {
        requireSubscriber(subscriber);
        int letter = letterOf(board.subscribers.names[subscriber], index);
        return letter == 0 ? NONE : letter;
    }

    public int whoAnswers(int line, int rings) throws IndexOutOfBoundsException {
        requireLine(line);
        return board.subscribers.findCode(line, rings);
    }

    public int knowers(int secret) throws IndexOutOfBoundsException {
        requireSubscriber(secret);
        return board.subscribers.countKnowing(secret);
    }

    public int bestInformed() {
        return board.subscribers.findBestInformed();
    }

    // ---- calls

    public int callState(int number) throws IndexOutOfBoundsException {
        requireCall(number);
        return board.calls.states[number];
    }

    public int callerOf(int number) throws IndexOutOfBoundsException {
        requireCall(number);
        return board.calls.callers[number];
    }

    public int calledSubscriber(int number) throws IndexOutOfBoundsException {
        requireCall(number);
        return board.calls.others[number];
    }

    public int calledTrunk(int number) throws IndexOutOfBoundsException {
        requireCall(number);
        return board.calls.trunks[number];
    }

    public int startTime(int number) throws IndexOutOfBoundsException {
        requireCall(number);
        return board.calls.starts[number];
    }

    public int endTime(int number) throws IndexOutOfBoundsException {
        requireCall(number);
        return board.calls.ends[number];
    }

    public int listeners(int number) throws IndexOutOfBoundsException {
        requireCall(number);
        return board.calls.listeners[number];
    }

    public int volume(int number) throws IndexOutOfBoundsException {
        requireCall(number);
        return volumeWith(board.calls.listeners[number]);
    }

    public int charge(int number) throws IndexOutOfBoundsException {
        requireCall(number);
        return board.chargeFor(number);
    }

    public int obstacle(int number) throws IndexOutOfBoundsException {
        requireCall(number);
        return board.calls.states[number] == WAITING ? board.findBlocker(number) : 0;
    }

    public int queuePlace(int number) throws IndexOutOfBoundsException {
        requireCall(number);
        return board.calls.placeInQueue(number);
    }

    public boolean isUrgent(int number) throws IndexOutOfBoundsException {
        requireCall(number);
        return board.calls.urgencies[number];
    }

    // ---- forecasts

    public int listenersBetween(int caller, int other)
            throws IndexOutOfBoundsException, IllegalArgumentException {
        requirePair(caller, other);
        return board.subscribers.curiousBetween(caller, other);
    }

    public int startsIfEnded(int number) throws IndexOutOfBoundsException {
        requireCall(number);
        if (board.calls.isOver(number)) {
            return 0;
        }
        reader.trial.copyFrom(board);
        return reader.trial.finish(number);
    }

    public int quietestCall(int caller) throws IndexOutOfBoundsException {
        requireSubscriber(caller);
        return board.subscribers.findQuietest(caller);
    }

    // ---- consistency and averages

    public int inconsistencies() {
        return board.calls.countShared() + board.cordFaults() + board.billFaults();
    }

    public double meanVolume() {
        int sum = 0;
        int started = 0;
        for (int number = 0; number < board.calls.count; number++) {
            if (board.calls.starts[number] != NONE) {
                sum += volumeWith(board.calls.listeners[number]);
                started++;
            }
        }
        return started == 0 ? 0.0 : (double) sum / (double) started;
    }

    public float gossipShare() {
        int subscribers = board.subscribers.count;
        if (subscribers == 0) {
            return 0.0f;
        }
        return (float) board.subscribers.countSecretsKnown() / (float) (subscribers * subscribers);
    }

    // ---- output

    public int writeCalls() {
        outputLength = 0;
        for (int number = 0; number < board.calls.count; number++) {
            if (!board.calls.isOver(number)) {
                writeCall(number);
            }
        }
        return outputLength;
    }

    public int outputByte(int index) {
        return index >= 0 && index < outputLength && index < MAX_OUTPUT ? output[index] : NONE;
    }

    private void writeCall(int number) {
        if (outputLength > 0) {
            writeByte(' ');
        }
        writeName(board.subscribers.nameAt(board.calls.callers[number]));
        writeByte(board.calls.states[number] == TALKING ? '-' : '?');
        if (board.calls.trunks[number] == NONE) {
            writeName(board.subscribers.nameAt(board.calls.others[number]));
        } else {
            writeByte('0' + board.calls.trunks[number]);
        }
    }

    private void writeName(long name) {
        for (int index = 0; index < MAX_NAME; index++) {
            int letter = letterOf(name, index);
            if (letter != 0) {
                writeByte(letter);
            }
        }
    }

    private void writeByte(int value) {
        if (outputLength < MAX_OUTPUT) {
            output[outputLength] = value;
            outputLength++;
        }
    }

    private void takeTrial() {
        history.push(board);
        board.copyFrom(reader.trial);
    }

    private void requireSubscriber(int subscriber) {
        if (!board.subscribers.has(subscriber)) {
            throw new IndexOutOfBoundsException("there is no such subscriber");
        }
    }

    private void requirePair(int caller, int other) {
        requireSubscriber(caller);
        requireSubscriber(other);
        if (caller == other) {
            throw new IllegalArgumentException("nobody calls himself");
        }
    }

    private void requireLine(int line) {
        if (line < 0 || line >= board.lineCount) {
            throw new IndexOutOfBoundsException("there is no such line");
        }
    }

    private void requireTrunk(int trunk) {
        if (trunk < 0 || trunk >= board.trunkCount) {
            throw new IndexOutOfBoundsException("there is no such trunk");
        }
    }

    private void requireCall(int number) {
        if (!board.calls.has(number)) {
            throw new IndexOutOfBoundsException("there is no such call");
        }
    }

    private void requireRoomForCall() {
        if (board.calls.count >= MAX_CALLS) {
            throw new IllegalStateException("there are too many calls");
        }
    }

    private void requireSlot(int slot) {
        if (slot < 0 || slot >= SLOTS) {
            throw new IllegalArgumentException("there is no such slot");
        }
    }

    private static int bit(int number) {
        return number < 0 ? 0 : 1 << number;
    }

    /** What a call uses is held as a set of bits, those of the lines first and those of the trunks behind them. */
    private static int trunkBit(int trunk) {
        return trunk < 0 ? 0 : 1 << MAX_LINES + trunk;
    }

    /** A code is held as the document writes rings for whoAnswers: a one, then a binary digit for each ring. */
    private static int ringsIn(int code) {
        return 31 - Integer.numberOfLeadingZeros(code);
    }

    /** A name is held in one number, its first letter in the lowest byte; behind the last letter stand zeros. */
    private static int letterOf(long name, int index) {
        return index < 0 || index >= MAX_NAME ? 0 : (int) (name >> 8 * index) & 255;
    }

    private static int volumeWith(int listeners) {
        int volume = FULL_VOLUME;
        for (int left = Integer.bitCount(listeners); left > 0; left--) {
            volume -= (volume + 9) / 10;
        }
        return volume;
    }

    /** All that undo and restore bring back. */
    private static final class Board {
        final Subscribers subscribers = new Subscribers();
        final Calls calls = new Calls();
        final int[] tolls = new int[MAX_TRUNKS];
        int clock;
        int lineCount;
        int cordCount;
        int trunkCount;

        void copyFrom(Board from) {
            subscribers.copyFrom(from.subscribers);
            calls.copyFrom(from.calls);
            System.arraycopy(from.tolls, 0, tolls, 0, MAX_TRUNKS);
            clock = from.clock;
            lineCount = from.lineCount;
            cordCount = from.cordCount;
            trunkCount = from.trunkCount;
        }

        void reset(int lines, int cords) {
            subscribers.count = 0;
            calls.count = 0;
            clock = 0;
            lineCount = lines;
            cordCount = cords;
            trunkCount = 0;
        }

        void addTrunk(int toll) {
            if (trunkCount < MAX_TRUNKS) {
                tolls[trunkCount] = toll;
                trunkCount++;
            }
        }

        int request(int caller, int other, int trunk, boolean isUrgent) {
            int used = subscribers.lineUsed(caller) | subscribers.lineUsed(other) | trunkBit(trunk);
            int number = calls.add(caller, other, trunk, isUrgent, used);
            if (number != NONE && findBlocker(number) == 0) {
                start(number);
            }
            return number;
        }

        int finish(int number) {
            boolean wasTalking = calls.states[number] == TALKING;
            calls.states[number] = wasTalking ? ENDED : CANCELLED;
            calls.ends[number] = clock;
            if (wasTalking) {
                subscribers.addToBill(calls.callers[number], chargeFor(number));
            }
            return startWaiting(true) + startWaiting(false);
        }

        int startWaiting(boolean isUrgent) {
            int started = 0;
            for (int number = 0; number < calls.count; number++) {
                boolean isNext = calls.states[number] == WAITING && calls.urgencies[number] == isUrgent;
                if (isNext && findBlocker(number) == 0) {
                    start(number);
                    started++;
                }
            }
            return started;
        }

        void start(int number) {
            int talkers = bit(calls.callers[number]) | bit(calls.others[number]);
            int listeners = subscribers.curiousOn(calls.used[number], talkers);
            calls.states[number] = TALKING;
            calls.starts[number] = clock;
            calls.listeners[number] = listeners;
            subscribers.tellSecrets(talkers, listeners);
        }

        /** The first reason, numbered as by obstacle(), that keeps a call from starting; 0 if there is none. */
        int findBlocker(int number) {
            int busy = calls.findBusy();
            if ((busy & subscribers.lineUsed(calls.callers[number])) != 0) {
                return 1;
            }
            if ((busy & calls.used[number]) != 0) {
                return 2;
            }
            return calls.cordNeeds[number] && calls.countCords() >= cordCount ? 3 : 0;
        }

        int unusedCords() {
            return cordCount - calls.countCords();
        }

        int chargeFor(int number) {
            int state = calls.states[number];
            if (state == WAITING || state == CANCELLED) {
                return 0;
            }
            int trunk = calls.trunks[number];
            if (trunk < 0 || trunk >= trunkCount) {
                return LOCAL_CHARGE;
            }
            int until = state == TALKING ? clock : calls.ends[number];
            int minutes = (until - calls.starts[number] + 59) / 60;
            return Math.max(1, minutes) * tolls[trunk];
        }

        int cordFaults() {
            return Math.abs(cordCount - unusedCords() - calls.countCords());
        }

        int billFaults() {
            int difference = 0;
            for (int subscriber = 0; subscriber < subscribers.count; subscriber++) {
                difference += subscribers.bills[subscriber];
            }
            for (int number = 0; number < calls.count; number++) {
                if (calls.states[number] == ENDED) {
                    difference -= chargeFor(number);
                }
            }
            return Math.abs(difference);
        }
    }

    private static final class Subscribers {
        final long[] names = new long[MAX_SUBSCRIBERS];
        final int[] lines = new int[MAX_SUBSCRIBERS];
        final int[] codes = new int[MAX_SUBSCRIBERS];
        final int[] curiosities = new int[MAX_SUBSCRIBERS];
        final int[] bills = new int[MAX_SUBSCRIBERS];
        final int[] secrets = new int[MAX_SUBSCRIBERS];
        int count;

        void copyFrom(Subscribers from) {
            System.arraycopy(from.names, 0, names, 0, MAX_SUBSCRIBERS);
            System.arraycopy(from.lines, 0, lines, 0, MAX_SUBSCRIBERS);
            System.arraycopy(from.codes, 0, codes, 0, MAX_SUBSCRIBERS);
            System.arraycopy(from.curiosities, 0, curiosities, 0, MAX_SUBSCRIBERS);
            System.arraycopy(from.bills, 0, bills, 0, MAX_SUBSCRIBERS);
            System.arraycopy(from.secrets, 0, secrets, 0, MAX_SUBSCRIBERS);
            count = from.count;
        }

        void add(long name, int line, int code, int curiosity) {
            if (count < MAX_SUBSCRIBERS) {
                names[count] = name;
                lines[count] = line;
                codes[count] = code;
                curiosities[count] = curiosity;
                bills[count] = 0;
                secrets[count] = bit(count);
                count++;
            }
        }

        boolean has(int subscriber) {
            return subscriber >= 0 && subscriber < count;
        }

        long nameAt(int subscriber) {
            return has(subscriber) ? names[subscriber] : 0;
        }

        int lineUsed(int subscriber) {
            return has(subscriber) ? 1 << lines[subscriber] : 0;
        }

        void addToBill(int subscriber, int cents) {
            if (has(subscriber)) {
                bills[subscriber] += cents;
            }
        }

        int findName(long name) {
            for (int subscriber = 0; subscriber < count; subscriber++) {
                if (names[subscriber] == name) {
                    return subscriber;
                }
            }
            return NONE;
        }

        int findCode(int line, int code) {
            for (int subscriber = 0; subscriber < count; subscriber++) {
                if (lines[subscriber] == line && codes[subscriber] == code) {
                    return subscriber;
                }
            }
            return NONE;
        }

        boolean isAmbiguous(int line, int code) {
            for (int subscriber = 0; subscriber < count; subscriber++) {
                if (lines[subscriber] == line && beginAlike(codes[subscriber], code)) {
                    return true;
                }
            }
            return false;
        }

        static boolean beginAlike(int code, int other) {
            int shared = Math.min(ringsIn(code), ringsIn(other));
            return code >> (ringsIn(code) - shared) == other >> (ringsIn(other) - shared);
        }

        int countOn(int line) {
            int found = 0;
            for (int subscriber = 0; subscriber < count; subscriber++) {
                if (lines[subscriber] == line) {
                    found++;
                }
            }
            return found;
        }

        int curiousOn(int used, int talkers) {
            int listeners = 0;
            for (int subscriber = 0; subscriber < count; subscriber++) {
                boolean isOnLine = (used & bit(lines[subscriber])) != 0;
                if (isOnLine && curiosities[subscriber] >= LISTENING_CURIOSITY) {
                    listeners |= bit(subscriber);
                }
            }
            return listeners & ~talkers;
        }

        int curiousBetween(int caller, int other) {
            return curiousOn(lineUsed(caller) | lineUsed(other), bit(caller) | bit(other));
        }

        int findQuietest(int caller) {
            int quietest = NONE;
            int fewest = MAX_SUBSCRIBERS;
            for (int other = 0; other < count; other++) {
                int listeners = Integer.bitCount(curiousBetween(caller, other));
                if (other != caller && listeners < fewest) {
                    quietest = other;
                    fewest = listeners;
                }
            }
            return quietest;
        }

        void tellSecrets(int talkers, int listeners) {
            int told = 0;
            for (int subscriber = 0; subscriber < count; subscriber++) {
                if ((talkers & bit(subscriber)) != 0) {
                    told |= secrets[subscriber];
                }
            }
            for (int subscriber = 0; subscriber < count; subscriber++) {
                if (((talkers | listeners) & bit(subscriber)) != 0) {
                    secrets[subscriber] |= told;
                }
            }
        }

        int countKnowing(int secret) {
            int found = 0;
            for (int subscriber = 0; subscriber < count; subscriber++) {
                if ((secrets[subscriber] & bit(secret)) != 0) {
                    found++;
                }
            }
            return found;
        }

        int countSecretsKnown() {
            int found = 0;
            for (int subscriber = 0; subscriber < count; subscriber++) {
                found += Integer.bitCount(secrets[subscriber]);
            }
            return found;
        }

        int findBestInformed() {
            int best = 0;
            int most = 0;
            for (int subscriber = 0; subscriber < count; subscriber++) {
                int known = Integer.bitCount(secrets[subscriber]);
                if (known > most) {
                    best = subscriber;
                    most = known;
                }
            }
            return best;
        }
    }

    private static final class Calls {
        final int[] states = new int[MAX_CALLS];
        final int[] callers = new int[MAX_CALLS];
        final int[] others = new int[MAX_CALLS];
        final int[] trunks = new int[MAX_CALLS];
        final boolean[] urgencies = new boolean[MAX_CALLS];
        /** The lines and the trunk that a call uses while it is talking. */
        final int[] used = new int[MAX_CALLS];
        final boolean[] cordNeeds = new boolean[MAX_CALLS];
        final int[] starts = new int[MAX_CALLS];
        final int[] ends = new int[MAX_CALLS];
        final int[] listeners = new int[MAX_CALLS];
        int count;

        void copyFrom(Calls from) {
            System.arraycopy(from.states, 0, states, 0, MAX_CALLS);
            System.arraycopy(from.callers, 0, callers, 0, MAX_CALLS);
            System.arraycopy(from.others, 0, others, 0, MAX_CALLS);
            System.arraycopy(from.trunks, 0, trunks, 0, MAX_CALLS);
            System.arraycopy(from.urgencies, 0, urgencies, 0, MAX_CALLS);
            System.arraycopy(from.used, 0, used, 0, MAX_CALLS);
            System.arraycopy(from.cordNeeds, 0, cordNeeds, 0, MAX_CALLS);
            System.arraycopy(from.starts, 0, starts, 0, MAX_CALLS);
            System.arraycopy(from.ends, 0, ends, 0, MAX_CALLS);
            System.arraycopy(from.listeners, 0, listeners, 0, MAX_CALLS);
            count = from.count;
        }

        int add(int caller, int other, int trunk, boolean isUrgent, int usedBits) {
            if (count >= MAX_CALLS) {
                return NONE;
            }
            int number = count;
            count++;
            states[number] = WAITING;
            callers[number] = caller;
            others[number] = other;
            trunks[number] = trunk;
            urgencies[number] = isUrgent;
            used[number] = usedBits;
            // Only a call on the caller's own line uses a single thing.
            cordNeeds[number] = Integer.bitCount(usedBits) > 1;
            starts[number] = NONE;
            ends[number] = NONE;
            listeners[number] = 0;
            return number;
        }

        boolean has(int number) {
            return number >= 0 && number < count;
        }

        boolean isOver(int number) {
            return states[number] == ENDED || states[number] == CANCELLED;
        }

        int countIn(int state) {
            int found = 0;
            for (int number = 0; number < count; number++) {
                if (states[number] == state) {
                    found++;
                }
            }
            return found;
        }

        int findBusy() {
            int busy = 0;
            for (int number = 0; number < count; number++) {
                if (states[number] == TALKING) {
                    busy |= used[number];
                }
            }
            return busy;
        }

        int countCords() {
            int cords = 0;
            for (int number = 0; number < count; number++) {
                if (states[number] == TALKING && cordNeeds[number]) {
                    cords++;
                }
            }
            return cords;
        }

        int placeInQueue(int number) {
            if (states[number] != WAITING) {
                return NONE;
            }
            int place = 0;
            for (int other = 0; other < count; other++) {
                boolean isEarlier = urgencies[other] == urgencies[number] ? other < number : urgencies[other];
                if (states[other] == WAITING && isEarlier) {
                    place++;
                }
            }
            return place;
        }

        /** The number of lines and trunks that more than one talking call uses. */
        int countShared() {
            int seen = 0;
            int shared = 0;
            for (int number = 0; number < count; number++) {
                if (states[number] == TALKING) {
                    shared |= seen & used[number];
                    seen |= used[number];
                }
            }
            return Integer.bitCount(shared);
        }
    }

    /** The boards before the latest changes, in a ring. */
    private static final class History {
        final Board[] boards = new Board[MAX_UNDO];
        int oldest;
        int count;

        History() {
            for (int index = 0; index < MAX_UNDO; index++) {
                boards[index] = new Board();
            }
        }

        void push(Board board) {
            boards[(oldest + count) % MAX_UNDO].copyFrom(board);
            if (count < MAX_UNDO) {
                count++;
            } else {
                oldest = (oldest + 1) % MAX_UNDO;
            }
        }

        void popInto(Board board) {
            if (count > 0) {
                count--;
                board.copyFrom(boards[(oldest + count) % MAX_UNDO]);
            }
        }
    }

    /** The input buffer and the token that is being looked at in it. */
    private static final class Input {
        static final int END = 0;
        static final int WORD = 1;
        static final int NUMBER = 2;
        static final int SEMICOLON = 3;
        static final int STRANGE = 4;
        /** A number of this size lies outside every range, so its further digits do not matter. */
        static final int LARGE = 1000000;

        final int[] bytes = new int[MAX_INPUT];
        int length;
        int next;
        int kind;
        int start;
        int number;

        void addByte(int value) {
            if (length < MAX_INPUT) {
                bytes[length] = value & 255;
                length++;
            }
        }

        void addFour(int four) {
            addByte(four >> 24);
            addByte(four >> 16);
            addByte(four >> 8);
            addByte(four);
        }

        void fill(String text) {
            for (int index = 0; index < text.length(); index++) {
                addByte(text.charAt(index));
            }
        }

        void shorten(int newLength) {
            length = newLength;
        }

        void rewind() {
            next = 0;
            advance();
        }

        int peek() {
            return next < length && next < MAX_INPUT ? bytes[next] : NONE;
        }

        void advance() {
            while (next < length && peek() == ' ') {
                next++;
            }
            start = next;
            int first = peek();
            if (first == NONE) {
                kind = END;
            } else if (isLetter(first)) {
                kind = WORD;
                skipWord();
            } else if (isDigit(first)) {
                kind = NUMBER;
                scanNumber();
            } else {
                kind = first == ';' ? SEMICOLON : STRANGE;
                next++;
            }
        }

        void skipWord() {
            while (next < length && isLetter(peek())) {
                next++;
            }
        }

        void scanNumber() {
            number = 0;
            while (next < length && isDigit(peek())) {
                if (number < LARGE) {
                    number = 10 * number + peek() - '0';
                }
                next++;
            }
        }

        static boolean isLetter(int value) {
            return value >= 'a' && value <= 'z';
        }

        static boolean isDigit(int value) {
            return value >= '0' && value <= '9';
        }

        int wordLength() {
            return kind == WORD ? next - start : 0;
        }

        int letterAt(int index) {
            return index >= 0 && index < wordLength() && start + index < MAX_INPUT ? bytes[start + index] : 0;
        }

        boolean isWord(String word) {
            if (wordLength() != word.length()) {
                return false;
            }
            for (int index = 0; index < word.length(); index++) {
                if (letterAt(index) != word.charAt(index)) {
                    return false;
                }
            }
            return true;
        }

        boolean isName() {
            return kind == WORD && wordLength() <= MAX_NAME;
        }

        long wordAsName() {
            long name = 0;
            for (int index = 0; index < MAX_NAME; index++) {
                name |= (long) letterAt(index) << 8 * index;
            }
            return name;
        }

        /** The code that the word gives; NONE if it is no word of rings. */
        int wordAsCode() {
            if (kind != WORD || wordLength() > MAX_RINGS) {
                return NONE;
            }
            int code = 1;
            for (int index = 0; index < wordLength(); index++) {
                if (letterAt(index) != 's' && letterAt(index) != 'l') {
                    return NONE;
                }
                code = 2 * code + (letterAt(index) == 'l' ? 1 : 0);
            }
            return code;
        }
    }

    /** Reads setups and scripts into a board of its own, so that a text with an error leaves no trace. */
    private static final class Reader {
        static final int SYNTAX = 1;
        static final int OUT_OF_RANGE = 2;
        static final int UNKNOWN_NAME = 3;
        static final int DUPLICATE_NAME = 4;
        static final int AMBIGUOUS = 5;
        static final int TOO_MANY = 6;
        static final int OVER = 7;

        final Input input = new Input();
        final Board trial = new Board();
        int errorCode;
        int errorOffset = NONE;

        void startText() {
            errorCode = 0;
            errorOffset = NONE;
            input.rewind();
        }

        void startScript(Board board) {
            trial.copyFrom(board);
            startText();
        }

        boolean readBoard() {
            if (!input.isWord("board")) {
                return fail(SYNTAX);
            }
            input.advance();
            int lines = readNumber(1, MAX_LINES);
            if (lines == NONE) {
                return false;
            }
            int cords = readNumber(1, MAX_CORDS);
            if (cords == NONE || !isAtSemicolon()) {
                return false;
            }
            trial.reset(lines, cords);
            input.advance();
            return true;
        }

        boolean readTrunks() {
            for (int trunk = 0; trunk <= MAX_TRUNKS && input.isWord("trunk"); trunk++) {
                if (trunk == MAX_TRUNKS) {
                    return fail(TOO_MANY);
                }
                input.advance();
                int toll = readNumber(1, MAX_TOLL);
                if (toll == NONE || !isAtSemicolon()) {
                    return false;
                }
                trial.addTrunk(toll);
                input.advance();
            }
            return true;
        }

        boolean readSubscribers() {
            if (!input.isWord("user")) {
                return fail(SYNTAX);
            }
            for (int subscriber = 0; subscriber <= MAX_SUBSCRIBERS && input.isWord("user"); subscriber++) {
                if (subscriber == MAX_SUBSCRIBERS) {
                    return fail(TOO_MANY);
                }
                if (!readSubscriber()) {
                    return false;
                }
            }
            return true;
        }

        boolean readSubscriber() {
            input.advance();
            long name = readNewName();
            if (name == 0) {
                return false;
            }
            int line = readNumber(0, trial.lineCount - 1);
            if (line == NONE) {
                return false;
            }
            int code = readCode(line);
            if (code == NONE) {
                return false;
            }
            int curiosity = readNumber(0, MAX_CURIOSITY);
            if (curiosity == NONE || !isAtSemicolon()) {
                return false;
            }
            trial.subscribers.add(name, line, code, curiosity);
            input.advance();
            return true;
        }

        /** Reads commands to the end of the text and answers how many there were, or NONE after an error. */
        int readCommands() {
            int commands = 0;
            while (input.kind != Input.END && commands < MAX_INPUT) {
                boolean isRead;
                if (input.isWord("call")) {
                    isRead = readCall();
                } else if (input.isWord("trunk")) {
                    isRead = readTrunkCall();
                } else if (input.isWord("end")) {
                    isRead = readEnd();
                } else if (input.isWord("wait")) {
                    isRead = readWait();
                } else {
                    isRead = input.isWord("mood") ? readMood() : fail(SYNTAX);
                }
                if (!isRead) {
                    return NONE;
                }
                commands++;
            }
            return commands;
        }

        boolean readCall() {
            input.advance();
            int caller = readKnownName(NONE);
            if (caller == NONE) {
                return false;
            }
            int other = readKnownName(caller);
            return other != NONE && readRequest(caller, other, NONE);
        }

        boolean readTrunkCall() {
            input.advance();
            int caller = readKnownName(NONE);
            if (caller == NONE) {
                return false;
            }
            int trunk = readNumber(0, trial.trunkCount - 1);
            return trunk != NONE && readRequest(caller, NONE, trunk);
        }

        boolean readRequest(int caller, int other, int trunk) {
            boolean isUrgent = input.isWord("urgent");
            if (isUrgent) {
                input.advance();
            }
            if (!isAtSemicolon()) {
                return false;
            }
            if (trial.calls.count >= MAX_CALLS) {
                return fail(TOO_MANY);
            }
            trial.request(caller, other, trunk, isUrgent);
            input.advance();
            return true;
        }

        boolean readEnd() {
            input.advance();
            int number = readNumber(0, trial.calls.count - 1);
            if (number == NONE || !isAtSemicolon()) {
                return false;
            }
            if (trial.calls.isOver(number)) {
                return fail(OVER);
            }
            trial.finish(number);
            input.advance();
            return true;
        }

        boolean readWait() {
            input.advance();
            int seconds = readNumber(1, Math.min(MAX_WAIT, MAX_CLOCK - trial.clock));
            if (seconds == NONE || !isAtSemicolon()) {
                return false;
            }
            trial.clock += seconds;
            input.advance();
            return true;
        }

        boolean readMood() {
            input.advance();
            int subscriber = readKnownName(NONE);
            if (subscriber == NONE) {
                return false;
            }
            int curiosity = readNumber(0, MAX_CURIOSITY);
            if (curiosity == NONE || !isAtSemicolon()) {
                return false;
            }
            trial.subscribers.curiosities[subscriber] = curiosity;
            input.advance();
            return true;
        }

        int readNumber(int least, int most) {
            if (input.kind != Input.NUMBER) {
                fail(SYNTAX);
                return NONE;
            }
            int number = input.number;
            if (number < least || number > most) {
                fail(OUT_OF_RANGE);
                return NONE;
            }
            input.advance();
            return number;
        }

        int readKnownName(int exceptFor) {
            if (!input.isName()) {
                fail(SYNTAX);
                return NONE;
            }
            int subscriber = trial.subscribers.findName(input.wordAsName());
            if (subscriber == NONE || subscriber == exceptFor) {
                fail(UNKNOWN_NAME);
                return NONE;
            }
            input.advance();
            return subscriber;
        }

        /** Answers 0, which is no name, after an error. */
        long readNewName() {
            if (!input.isName()) {
                fail(SYNTAX);
                return 0;
            }
            long name = input.wordAsName();
            if (trial.subscribers.findName(name) != NONE) {
                fail(DUPLICATE_NAME);
                return 0;
            }
            input.advance();
            return name;
        }

        int readCode(int line) {
            int code = input.wordAsCode();
            if (code == NONE) {
                fail(SYNTAX);
                return NONE;
            }
            if (trial.subscribers.isAmbiguous(line, code)) {
                fail(AMBIGUOUS);
                return NONE;
            }
            input.advance();
            return code;
        }

        boolean isAtSemicolon() {
            return input.kind == Input.SEMICOLON || fail(SYNTAX);
        }

        /** Records the error at the present token; false, so that a reading method can end with it. */
        boolean fail(int code) {
            errorCode = code;
            errorOffset = input.start;
            return false;
        }
    }
}
