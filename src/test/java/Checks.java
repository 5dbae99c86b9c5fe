/**
 * What the tests share: checks that are counted, texts as input, and a text of all that a board shows.
 * They may use an object for more than 512 calls, since this program answers on without an end.
 */
final class Checks {
    static final String SETUP = "board 3 2; trunk 20; user ann 0 ss 2; user bea 0 sl 7; "
            + "user cal 0 l 5; user dot 1 s 0; user eve 1 ll 9; user fay 2 sls 6;";
    static final int ANN = 0;
    static final int BEA = 1;
    static final int CAL = 2;
    static final int DOT = 3;
    static final int EVE = 4;
    static final int FAY = 5;
    static final int[] WRONG = {-1, Integer.MIN_VALUE, Integer.MAX_VALUE};

    private static int wrong = 0;

    interface Action {
        Object run();
    }

    private Checks() {
    }

    static void same(String what, long got, long due) {
        if (got != due) {
            report(what + " answered " + got + ", due is " + due);
        }
    }

    static void same(String what, double got, double due) {
        if (got != due) {
            report(what + " answered " + got + ", due is " + due);
        }
    }

    static void same(String what, String got, String due) {
        if (!got.equals(due)) {
            report(what + " answered\n  " + got + "\ndue is\n  " + due);
        }
    }

    static void yes(String what, boolean holds) {
        if (!holds) {
            report(what + " does not hold");
        }
    }

    /** The call throws just this class, not one below it that only the machine throws, and changes nothing. */
    static void refuses(CordBoard board, Class<?> due, String what, Action action) {
        String before = show(board);
        String thrown = thrownBy(action);
        same(what + " throws", thrown, due.getName());
        same(what + " changes nothing", show(board), before);
    }

    static void noIndex(CordBoard board, String what, Action action) {
        refuses(board, IndexOutOfBoundsException.class, what, action);
    }

    static void noArgument(CordBoard board, String what, Action action) {
        refuses(board, IllegalArgumentException.class, what, action);
    }

    static void noState(CordBoard board, String what, Action action) {
        refuses(board, IllegalStateException.class, what, action);
    }

    static String thrownBy(Action action) {
        try {
            action.run();
            return "nothing";
        } catch (RuntimeException thrown) {
            return thrown.getClass().getName();
        }
    }

    static void report(String message) {
        wrong++;
        if (wrong <= 50) {
            System.out.println(message);
        }
    }

    static void end() {
        System.out.println(wrong == 0 ? "all answers are as due" : wrong + " answers are not as due");
        if (wrong != 0) {
            System.exit(1);
        }
    }

    /** Appends the text in pieces of 20 bytes and cuts off what the last piece has too much. */
    static void type(CordBoard board, String text) {
        int length = inputLength(board);
        for (int start = 0; start < text.length(); start += 20) {
            board.append(four(text, start), four(text, start + 4), four(text, start + 8), four(text, start + 12),
                    four(text, start + 16));
        }
        board.truncateInput(length + text.length());
    }

    private static int four(String text, int start) {
        int value = 0;
        for (int index = start; index < start + 4; index++) {
            value = value << 8 | (index < text.length() ? text.charAt(index) & 255 : 0);
        }
        return value;
    }

    static int load(CordBoard board, String text) {
        type(board, text);
        return board.load();
    }

    static int play(CordBoard board, String text) {
        type(board, text);
        return board.play();
    }

    static CordBoard loaded(String text) {
        CordBoard board = new CordBoard();
        yes("the setup is fine: " + text, load(board, text) != CordBoard.NONE);
        return board;
    }

    static void loadFails(String text, int code, int offset) {
        CordBoard board = new CordBoard();
        String before = show(board);
        same("load of " + text, load(board, text), CordBoard.NONE);
        same("the code of " + text, board.errorCode(), code);
        same("the offset of " + text, board.errorOffset(), offset);
        same("the state after " + text, show(board), before);
        same("the buffer after " + text, inputLength(board), 0);
    }

    static void playFails(CordBoard board, String text, int code, int offset) {
        String before = show(board);
        same("play of " + text, play(board, text), CordBoard.NONE);
        same("the code of " + text, board.errorCode(), code);
        same("the offset of " + text, board.errorOffset(), offset);
        same("the state after " + text, show(board), before);
        same("the buffer after " + text, inputLength(board), 0);
    }

    /** The longest length to which the buffer can be "shortened" is its present one. */
    static int inputLength(CordBoard board) {
        int longer = board.append(0, 0, 0, 0, 0);
        int length = longer == CordBoard.NONE ? 700 : longer - 20;
        while (refusesLength(board, length)) {
            length--;
        }
        return length;
    }

    private static boolean refusesLength(CordBoard board, int length) {
        return !thrownBy(() -> board.truncateInput(length)).equals("nothing");
    }

    static String written(CordBoard board) {
        int length = board.writeCalls();
        StringBuilder text = new StringBuilder();
        for (int index = 0; index < length; index++) {
            text.append((char) board.outputByte(index));
        }
        return text.toString();
    }

    static String nameOf(CordBoard board, int subscriber) {
        StringBuilder name = new StringBuilder();
        for (int index = 0; board.nameByte(subscriber, index) != CordBoard.NONE; index++) {
            name.append((char) board.nameByte(subscriber, index));
        }
        return name.toString();
    }

    /** All that undo and restore bring back, as far as the face shows it, and the number of changes. */
    static String show(CordBoard board) {
        return "undoable " + board.undoableChanges() + " " + showState(board);
    }

    static String showState(CordBoard board) {
        StringBuilder text = new StringBuilder();
        text.append("clock ").append(board.clock()).append(" cords ").append(board.freeCords()).append('/')
                .append(board.cordCount()).append(" waiting ").append(board.waitingCalls()).append(" talking ")
                .append(board.talkingCalls()).append(" best ").append(board.bestInformed()).append(" mean ")
                .append(board.meanVolume()).append(" gossip ").append(board.gossipShare()).append(" faults ")
                .append(board.inconsistencies());
        for (int line = 0; line < board.lineCount(); line++) {
            text.append("\n  line ").append(board.isLineBusy(line));
        }
        for (int trunk = 0; trunk < board.trunkCount(); trunk++) {
            text.append("\n  trunk ").append(board.toll(trunk)).append(' ').append(board.isTrunkBusy(trunk));
        }
        for (int s = 0; s < board.subscriberCount(); s++) {
            text.append("\n  user ").append(nameOf(board, s)).append(' ').append(board.lineOf(s)).append(' ')
                    .append(board.ringCount(s)).append('/').append(board.ringSeconds(s)).append(' ')
                    .append(board.curiosity(s)).append(" bill ").append(board.bill(s)).append(" knows ")
                    .append(board.secretsKnown(s)).append(" knowers ").append(board.knowers(s))
                    .append(" neighbours ").append(board.neighbours(s)).append(" quietest ")
                    .append(board.quietestCall(s)).append(" rings");
            for (int rings = 0; rings < 64; rings++) {
                if (board.whoAnswers(board.lineOf(s), rings) == s) {
                    text.append(' ').append(rings);
                }
            }
        }
        for (int number = 0; number < board.callCount(); number++) {
            text.append("\n  call ").append(board.callState(number)).append(' ').append(board.callerOf(number))
                    .append('>').append(board.calledSubscriber(number)).append('/')
                    .append(board.calledTrunk(number)).append(' ').append(board.isUrgent(number)).append(" from ")
                    .append(board.startTime(number)).append(" to ").append(board.endTime(number)).append(" heard ")
                    .append(board.listeners(number)).append(" volume ").append(board.volume(number))
                    .append(" charge ").append(board.charge(number)).append(" obstacle ")
                    .append(board.obstacle(number)).append(" place ").append(board.queuePlace(number))
                    .append(" starts ").append(board.startsIfEnded(number));
        }
        return text.toString();
    }
}
