/** Promises 40 to 54: what the board tells of calls, and its forecasts. */
public final class CallPromisesTest {
    private CallPromisesTest() {
    }

    public static void main(String[] args) {
        promise40To45AndIsUrgent();
        promise46Listeners();
        promise47Volume();
        promise48Charge();
        promise49Obstacle();
        promise50QueuePlace();
        promise52ListenersBetween();
        promise53StartsIfEnded();
        promise54QuietestCall();
        wrongCalls();
        Checks.end();
    }

    /** A board with a call of each state: 0 ended, 1 talking, 2 cancelled, 3 waiting. */
    private static CordBoard mixed() {
        CordBoard board = new CordBoard();
        board.call(Checks.ANN, Checks.DOT, false);
        board.callTrunk(Checks.BEA, 0, true);
        board.call(Checks.CAL, Checks.FAY, true);
        board.callTrunk(Checks.CAL, 0, false);
        board.waitFor(10);
        board.end(2);
        board.waitFor(5);
        board.end(0);
        board.waitFor(100);
        return board;
    }

    private static void promise40To45AndIsUrgent() {
        CordBoard board = mixed();
        int[] states = {CordBoard.ENDED, CordBoard.TALKING, CordBoard.CANCELLED, CordBoard.WAITING};
        int[] callers = {Checks.ANN, Checks.BEA, Checks.CAL, Checks.CAL};
        int[] others = {Checks.DOT, CordBoard.NONE, Checks.FAY, CordBoard.NONE};
        int[] trunks = {CordBoard.NONE, 0, CordBoard.NONE, 0};
        int[] starts = {0, 15, CordBoard.NONE, CordBoard.NONE};
        int[] ends = {15, CordBoard.NONE, 10, CordBoard.NONE};
        boolean[] urgent = {false, true, true, false};
        for (int number = 0; number < 4; number++) {
            Checks.same("promise 40: callState", board.callState(number), states[number]);
            Checks.same("promise 41: callerOf", board.callerOf(number), callers[number]);
            Checks.same("promise 42: calledSubscriber", board.calledSubscriber(number), others[number]);
            Checks.same("promise 43: calledTrunk", board.calledTrunk(number), trunks[number]);
            Checks.same("promise 44: startTime", board.startTime(number), starts[number]);
            Checks.same("promise 45: endTime", board.endTime(number), ends[number]);
            Checks.yes("promise 51: isUrgent", board.isUrgent(number) == urgent[number]);
        }
    }

    private static void promise46Listeners() {
        CordBoard board = mixed();
        Checks.same("listeners of both lines", board.listeners(0), 1 << Checks.BEA | 1 << Checks.CAL | 1 << Checks.EVE);
        Checks.same("listeners of the caller's line", board.listeners(1), 1 << Checks.CAL);
        Checks.same("listeners of a cancelled call", board.listeners(2), 0);
        Checks.same("listeners of a waiting call", board.listeners(3), 0);
        CordBoard edge = Checks.loaded("board 1 1;user a 0 s 9;user b 0 ls 9;user c 0 lls 4;user d 0 llls 5;");
        edge.call(0, 1, false);
        Checks.same("4 does not listen, 5 does", edge.listeners(0), 8);
    }

    private static void promise47Volume() {
        CordBoard board = mixed();
        Checks.same("three listeners", board.volume(0), 72);
        Checks.same("one listener", board.volume(1), 90);
        Checks.same("a cancelled call", board.volume(2), 100);
        Checks.same("a waiting call", board.volume(3), 100);
        int[] volumes = {100, 90, 81, 72, 64, 57, 51, 45, 40, 36, 32, 28, 25, 22};
        String[] rings = {"sss", "ssl", "sls", "sll", "lss", "lsl", "lls", "lll"};
        StringBuilder setup = new StringBuilder("board 2 1;user a 0 sss 0;user b 1 sss 0;");
        for (int listeners = 0; listeners < volumes.length; listeners++) {
            CordBoard loud = Checks.loaded(setup.toString());
            loud.call(0, 1, false);
            Checks.same("volume with " + listeners, loud.volume(0), volumes[listeners]);
            setup.append("user p").append((char) ('a' + listeners)).append(' ').append(listeners % 2).append(' ')
                    .append(rings[1 + listeners / 2]).append(" 5;");
        }
    }

    private static void promise48Charge() {
        CordBoard board = mixed();
        Checks.same("what it has cost", board.charge(0), 5);
        Checks.same("what it costs now", board.charge(1), 40);
        Checks.same("a cancelled call", board.charge(2), 0);
        Checks.same("a waiting call", board.charge(3), 0);
        board.waitFor(20);
        Checks.same("120 seconds", board.charge(1), 40);
        board.waitFor(1);
        Checks.same("121 seconds", board.charge(1), 60);
        board.end(1);
        board.waitFor(1000);
        Checks.same("it does not grow", board.charge(1), 60);
        Checks.same("nor does the other", board.charge(0), 5);
        CordBoard fresh = new CordBoard();
        fresh.callTrunk(0, 0, false);
        Checks.same("at least a minute", fresh.charge(0), 20);
        fresh.waitFor(60);
        Checks.same("60 seconds", fresh.charge(0), 20);
        fresh.waitFor(1);
        Checks.same("61 seconds", fresh.charge(0), 40);
    }

    private static void promise49Obstacle() {
        CordBoard board = Checks.loaded("board 6 2;trunk 5;trunk 6;user a 0 s 0;user b 1 s 0;user c 2 s 0;user d 3 s 0;user e 4 s 0;user f 5 s 0;");
        board.call(0, 1, false);
        board.callTrunk(2, 0, false);
        board.call(0, 3, false);
        board.call(3, 1, false);
        board.callTrunk(3, 0, false);
        board.callTrunk(3, 1, false);
        board.call(4, 5, false);
        board.call(0, 1, false);
        board.callTrunk(2, 0, false);
        int[] obstacles = {0, 0, 1, 2, 2, 3, 3, 1, 1};
        for (int number = 0; number < obstacles.length; number++) {
            Checks.same("obstacle(" + number + ")", board.obstacle(number), obstacles[number]);
        }
        board.end(8);
        Checks.same("a cancelled call", board.obstacle(8), 0);
        board.end(0);
        Checks.same("an ended call", board.obstacle(0), 0);
    }

    private static void promise50QueuePlace() {
        CordBoard board = Checks.loaded("board 1 1;user a 0 s 0;user b 0 l 0;");
        boolean[] urgent = {true, false, true, false, true};
        for (boolean isUrgent : urgent) {
            board.call(0, 1, isUrgent);
        }
        int[] places = {CordBoard.NONE, 2, 0, 3, 1};
        for (int number = 0; number < places.length; number++) {
            Checks.same("queuePlace(" + number + ")", board.queuePlace(number), places[number]);
        }
        board.end(2);
        Checks.same("a cancelled call", board.queuePlace(2), CordBoard.NONE);
        Checks.same("the first now", board.queuePlace(4), 0);
        Checks.same("the last now", board.queuePlace(3), 2);
        board.end(0);
        Checks.same("an ended call", board.queuePlace(0), CordBoard.NONE);
        Checks.same("a talking call", board.queuePlace(4), CordBoard.NONE);
    }

    private static void promise52ListenersBetween() {
        CordBoard board = new CordBoard();
        Checks.same("ann and dot", board.listenersBetween(Checks.ANN, Checks.DOT), 22);
        Checks.same("dot and ann", board.listenersBetween(Checks.DOT, Checks.ANN), 22);
        Checks.same("bea and cal", board.listenersBetween(Checks.BEA, Checks.CAL), 0);
        board.call(Checks.ANN, Checks.DOT, false);
        Checks.same("busy lines do not matter", board.listenersBetween(Checks.ANN, Checks.DOT), 22);
        board.setCuriosity(Checks.ANN, 5);
        Checks.same("bea and cal now", board.listenersBetween(Checks.BEA, Checks.CAL), 1);
        for (int wrong : new int[] {-1, 6, Integer.MIN_VALUE, Integer.MAX_VALUE}) {
            Checks.noIndex(board, "listenersBetween(" + wrong + ", 0)", () -> board.listenersBetween(wrong, 0));
            Checks.noIndex(board, "listenersBetween(0, " + wrong + ")", () -> board.listenersBetween(0, wrong));
            Checks.noIndex(board, "listenersBetween twice", () -> board.listenersBetween(wrong, wrong));
        }
        Checks.noArgument(board, "listenersBetween(5, 5)", () -> board.listenersBetween(5, 5));
    }

    private static void promise53StartsIfEnded() {
        CordBoard board = Checks.loaded("board 4 2;user a 0 s 0;user b 1 s 0;user c 2 s 0;user d 3 s 0;user e 0 l 0;user f 1 l 0;");
        board.call(0, 1, false);
        board.call(0, 4, false);
        board.call(1, 5, true);
        board.call(0, 2, false);
        board.call(2, 3, false);
        String before = Checks.show(board);
        Checks.same("two would start", board.startsIfEnded(0), 2);
        Checks.same("none would start", board.startsIfEnded(4), 0);
        Checks.same("none for a waiting call", board.startsIfEnded(1), 0);
        Checks.same("nothing changes", Checks.show(board), before);
        Checks.same("it comes true", board.end(0), 2);
        Checks.same("an ended call", board.startsIfEnded(0), 0);
        board.end(3);
        Checks.same("a cancelled call", board.startsIfEnded(3), 0);
        board.save(0);
        board.startsIfEnded(1);
        Checks.same("the saved state stays", board.restore(0), 0);
        Checks.same("with its calls", board.talkingCalls(), 3);
    }

    private static void promise54QuietestCall() {
        CordBoard board = new CordBoard();
        Checks.same("a tie goes to bea", board.quietestCall(Checks.ANN), Checks.BEA);
        Checks.same("from bea", board.quietestCall(Checks.BEA), Checks.CAL);
        Checks.same("from dot", board.quietestCall(Checks.DOT), Checks.EVE);
        Checks.same("from fay", board.quietestCall(Checks.FAY), Checks.EVE);
        Checks.same("alone", Checks.loaded("board 1 1;user a 0 s 9;").quietestCall(0), CordBoard.NONE);
        Checks.same("two", Checks.loaded("board 1 1;user a 0 s 9;user b 0 l 9;").quietestCall(1), 0);
        for (int wrong : new int[] {-1, 6, Integer.MIN_VALUE, Integer.MAX_VALUE}) {
            Checks.noIndex(board, "quietestCall(" + wrong + ")", () -> board.quietestCall(wrong));
        }
    }

    private static void wrongCalls() {
        CordBoard board = mixed();
        for (int wrong : new int[] {-1, 4, 39, 40, Integer.MIN_VALUE, Integer.MAX_VALUE}) {
            Checks.noIndex(board, "callState(" + wrong + ")", () -> board.callState(wrong));
            Checks.noIndex(board, "callerOf(" + wrong + ")", () -> board.callerOf(wrong));
            Checks.noIndex(board, "calledSubscriber(" + wrong + ")", () -> board.calledSubscriber(wrong));
            Checks.noIndex(board, "calledTrunk(" + wrong + ")", () -> board.calledTrunk(wrong));
            Checks.noIndex(board, "startTime(" + wrong + ")", () -> board.startTime(wrong));
            Checks.noIndex(board, "endTime(" + wrong + ")", () -> board.endTime(wrong));
            Checks.noIndex(board, "listeners(" + wrong + ")", () -> board.listeners(wrong));
            Checks.noIndex(board, "volume(" + wrong + ")", () -> board.volume(wrong));
            Checks.noIndex(board, "charge(" + wrong + ")", () -> board.charge(wrong));
            Checks.noIndex(board, "obstacle(" + wrong + ")", () -> board.obstacle(wrong));
            Checks.noIndex(board, "queuePlace(" + wrong + ")", () -> board.queuePlace(wrong));
            Checks.noIndex(board, "isUrgent(" + wrong + ")", () -> board.isUrgent(wrong));
            Checks.noIndex(board, "startsIfEnded(" + wrong + ")", () -> board.startsIfEnded(wrong));
        }
    }
}
