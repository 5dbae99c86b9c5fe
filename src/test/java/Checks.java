/**
 * What the tests share: checks that are counted, texts as input, and texts of all that a board shows.
 * The document leaves free what an object answers after its 512th call, so no test makes more calls than that on
 * one object: a check that asks much makes an object of its own.
 */
final class Checks {
    static final String SETUP = "board 3 2; trunk 20; user ann 0 ss 2; user bea 0 sl 7; "
            + "user cal 0 l 5; user dot 1 s 0; user eve 1 ll 9; user fay 2 sls 6;";
    static final String PAIR = "board 1 1;trunk 9;user a 0 s 5;user b 0 l 5;";
    static final int ANN = 0;
    static final int BEA = 1;
    static final int CAL = 2;
    static final int DOT = 3;
    static final int EVE = 4;
    static final int FAY = 5;
    static final int MIN = Integer.MIN_VALUE;
    static final int MAX = Integer.MAX_VALUE;

    private static int wrong = 0;

    interface Maker {
        CordBoard make();
    }

    interface Use {
        Object run(CordBoard board);
    }

    private Checks() {
    }

    // ---- checks

    static void same(String what, long got, long due) {
        if (got != due) {
            report(what + " answered " + got + ", due is " + due);
        }
    }

    static void same(String what, double got, double due) {
        if (got != due) {
            report(what + " answered " + got + ", due is " + due);
        }
    }

    static void same(String what, String got, String due) {
        if (!got.equals(due)) {
            report(what + " answered\n  " + got + "\ndue is\n  " + due);
        }
    }

    static void yes(String what, boolean holds) {
        if (!holds) {
            report(what + " does not hold");
        }
    }

    /** The call throws just this class, not one below it that only the machine throws, and changes nothing. */
    static void refuses(Maker maker, Class<?> due, String what, Use use) {
        CordBoard board = maker.make();
        same(what + " throws", thrownBy(board, use), due.getName());
        same(what + " changes nothing", everything(board), everything(maker.make()));
    }

    static void noIndex(Maker maker, String what, Use use) {
        refuses(maker, IndexOutOfBoundsException.class, what, use);
    }

    static void noArgument(Maker maker, String what, Use use) {
        refuses(maker, IllegalArgumentException.class, what, use);
    }

    static void noState(Maker maker, String what, Use use) {
        refuses(maker, IllegalStateException.class, what, use);
    }

    /** The call answers and leaves everything as it was. */
    static void onlyAsks(Maker maker, String what, Use use) {
        CordBoard board = maker.make();
        same(what + " throws", thrownBy(board, use), "nothing");
        same(what + " changes nothing", everything(board), everything(maker.make()));
    }

    private static String thrownBy(CordBoard board, Use use) {
        try {
            use.run(board);
            return "nothing";
        } catch (RuntimeException thrown) {
            return thrown.getClass().getName();
        }
    }

    static void report(String message) {
        wrong++;
        if (wrong <= 50) {
            System.out.println(message);
        }
    }

    static void end() {
        System.out.println(wrong == 0 ? "all answers are as due" : wrong + " answers are not as due");
        if (wrong != 0) {
            System.exit(1);
        }
    }

    // ---- texts

    /** Appends the text in pieces of 20 bytes and cuts off what the last piece has too much. */
    static void type(CordBoard board, String text) {
        int length = inputLength(board);
        for (int start = 0; start < text.length(); start += 20) {
            board.append(four(text, start), four(text, start + 4), four(text, start + 8), four(text, start + 12),
                    four(text, start + 16));
        }
        board.truncateInput(length + text.length());
    }

    private static int four(String text, int start) {
        int value = 0;
        for (int index = start; index < start + 4; index++) {
            value = value << 8 | (index < text.length() ? text.charAt(index) & 255 : 0);
        }
        return value;
    }

    static int load(CordBoard board, String text) {
        type(board, text);
        return board.load();
    }

    static int play(CordBoard board, String text) {
        type(board, text);
        return board.play();
    }

    static CordBoard loaded(String text) {
        CordBoard board = new CordBoard();
        if (load(board, text) == CordBoard.NONE) {
            report("the setup has an error: " + text);
        }
        return board;
    }

    /** A board after a setup and a script. */
    static CordBoard played(String setup, String script) {
        CordBoard board = loaded(setup);
        if (play(board, script) == CordBoard.NONE) {
            report("the script has an error: " + script);
        }
        return board;
    }

    static void loads(String text, int users) {
        CordBoard board = used();
        same("load of " + text, load(board, text), users);
        same("the code of " + text, board.errorCode(), 0);
        same("the offset of " + text, board.errorOffset(), CordBoard.NONE);
        same("the users of " + text, board.subscriberCount(), users);
        same("the buffer after " + text, inputLength(board), 0);
    }

    static void loadFails(String text, int code, int offset) {
        CordBoard board = used();
        same("load of " + text, load(board, text), CordBoard.NONE);
        stands(board, text, code, offset);
        same("the state after " + text, kept(board), kept(used()));
    }

    static void plays(Maker maker, String text, int commands) {
        CordBoard board = maker.make();
        same("play of " + text, play(board, text), commands);
        same("the code of " + text, board.errorCode(), 0);
        same("the offset of " + text, board.errorOffset(), CordBoard.NONE);
        same("the buffer after " + text, inputLength(board), 0);
    }

    static void playFails(Maker maker, String text, int code, int offset) {
        CordBoard board = maker.make();
        same("play of " + text, play(board, text), CordBoard.NONE);
        stands(board, text, code, offset);
        same("the state after " + text, kept(board), kept(maker.make()));
    }

    private static void stands(CordBoard board, String text, int code, int offset) {
        same("the code of " + text, board.errorCode(), code);
        same("the offset of " + text, board.errorOffset(), offset);
        same("the buffer after " + text, inputLength(board), 0);
    }

    /** The longest length to which the buffer can be "shortened" is its present one. */
    static int inputLength(CordBoard board) {
        int longer = board.append(0, 0, 0, 0, 0);
        int length = longer == CordBoard.NONE ? 700 : longer - 20;
        while (!thrownBy(board, shorten(length)).equals("nothing")) {
            length--;
        }
        return length;
    }

    private static Use shorten(int length) {
        return board -> board.truncateInput(length);
    }

    static String repeat(String text, int times) {
        return text.repeat(times);
    }

    /** A setup of so many users pa, pb, .. by turns on each line, all with five rings. */
    static String crowd(int users, int lines, int curiosity) {
        StringBuilder text = new StringBuilder("board " + lines + " 6;");
        for (int user = 0; user < users; user++) {
            text.append("user p").append((char) ('a' + user)).append(' ').append(user % lines).append(' ')
                    .append(ringsOf(32 + user)).append(' ').append(curiosity).append(';');
        }
        return text.toString();
    }

    /** The rings of a number as whoAnswers takes it. */
    static String ringsOf(int number) {
        return Integer.toBinaryString(number).substring(1).replace('0', 's').replace('1', 'l');
    }

    // ---- boards

    /** A board with calls of each state, changes to undo, a saved state and an output. */
    static CordBoard used() {
        CordBoard board = new CordBoard();
        board.call(ANN, DOT, false);
        board.callTrunk(BEA, 0, true);
        board.save(1);
        board.call(CAL, FAY, true);
        board.callTrunk(CAL, 0, false);
        board.waitFor(10);
        board.end(2);
        board.waitFor(5);
        board.end(0);
        board.waitFor(100);
        board.writeCalls();
        return board;
    }

    /** The first board at a late time. */
    static CordBoard late(int clock) {
        CordBoard board = new CordBoard();
        int now = 0;
        while (now < clock) {
            now = board.waitFor(Math.min(9999, clock - now));
        }
        return board;
    }

    static CordBoard withCalls(int calls) {
        CordBoard board = loaded(PAIR);
        for (int number = 0; number < calls; number++) {
            board.call(0, 1, false);
        }
        return board;
    }

    // ---- what a board shows

    static String written(CordBoard board) {
        board.writeCalls();
        return outputOf(board, 0, 200);
    }

    static String outputOf(CordBoard board, int from, int to) {
        StringBuilder text = new StringBuilder();
        int value = board.outputByte(from);
        for (int index = from + 1; value != CordBoard.NONE && index <= to; index++) {
            text.append((char) value);
            value = board.outputByte(index);
        }
        return text.toString();
    }

    static String nameOf(CordBoard board, int subscriber) {
        StringBuilder name = new StringBuilder();
        int letter = board.nameByte(subscriber, 0);
        for (int index = 1; letter != CordBoard.NONE && index < 9; index++) {
            name.append((char) letter);
            letter = board.nameByte(subscriber, index);
        }
        return name.toString();
    }

    /** The present state, from which all other answers follow. */
    static String show(CordBoard board) {
        StringBuilder text = new StringBuilder();
        text.append("clock ").append(board.clock()).append(" cords ").append(board.freeCords()).append('/')
                .append(board.cordCount()).append(" waiting ").append(board.waitingCalls()).append(" talking ")
                .append(board.talkingCalls()).append(" mean ").append(board.meanVolume()).append(" gossip ")
                .append(board.gossipShare()).append(" faults ").append(board.inconsistencies());
        for (int line = 0; line < board.lineCount(); line++) {
            text.append("\n  line ").append(board.isLineBusy(line));
        }
        for (int trunk = 0; trunk < board.trunkCount(); trunk++) {
            text.append("\n  trunk ").append(board.toll(trunk)).append(' ').append(board.isTrunkBusy(trunk));
        }
        int users = board.subscriberCount();
        for (int user = 0; user < users; user++) {
            text.append("\n  user ").append(showUser(board, user));
        }
        int calls = board.callCount();
        for (int number = 0; number < calls; number++) {
            if (number < 5 || number >= calls - 5) {
                text.append("\n  call ").append(number).append(' ').append(showCall(board, number));
            }
        }
        return text.toString();
    }

    private static String showUser(CordBoard board, int user) {
        return nameOf(board, user) + " " + board.lineOf(user) + " " + board.ringCount(user) + "/"
                + board.ringSeconds(user) + " " + board.curiosity(user) + " bill " + board.bill(user) + " knows "
                + board.secretsKnown(user);
    }

    private static String showCall(CordBoard board, int number) {
        return board.callState(number) + " " + board.callerOf(number) + ">" + board.calledSubscriber(number) + "/"
                + board.calledTrunk(number) + " " + board.isUrgent(number) + " from " + board.startTime(number)
                + " to " + board.endTime(number) + " heard " + board.listeners(number);
    }

    private static String brief(CordBoard board) {
        return board.clock() + " " + board.callCount() + " " + board.talkingCalls() + " " + board.waitingCalls() + " "
                + board.subscriberCount() + " " + board.lineCount() + " " + board.curiosity(0) + " " + board.bill(0);
    }

    /** The state, the states that undo brings back, the output and what is saved; the board is used up by it. */
    static String kept(CordBoard board) {
        StringBuilder text = new StringBuilder(show(board));
        text.append("\n  output ").append(outputOf(board, 0, 20));
        for (int left = board.undoableChanges(); left > 0; left--) {
            text.append("\n  undo ").append(board.undo()).append(": ").append(brief(board));
        }
        for (int slot = 0; slot < 2; slot++) {
            text.append("\n  slot ").append(slot).append(": ").append(slotOf(board, slot));
        }
        return text.toString();
    }

    private static String slotOf(CordBoard board, int slot) {
        return thrownBy(board, changed -> changed.restore(slot)) + " " + brief(board);
    }

    /** Also the reported error, and the input by its length and by what a play of it answers. */
    static String everything(CordBoard board) {
        String text = "error " + board.errorCode() + " at " + board.errorOffset() + " input " + inputLength(board)
                + "\n  " + kept(board);
        return text + "\n  play " + board.play() + " error " + board.errorCode() + " at " + board.errorOffset()
                + " clock " + board.clock();
    }
}
