/** Promises 8 to 15: changes, undo, save and restore. */
public final class ChangePromisesTest {
    private ChangePromisesTest() {
    }

    public static void main(String[] args) {
        promise8Call();
        promise9CallTrunk();
        promise10End();
        promise10QueueOrder();
        promise11WaitFor();
        promise12SetCuriosity();
        promise13Undo();
        promise14Save();
        promise15Restore();
        Checks.end();
    }

    private static void promise8Call() {
        CordBoard board = new CordBoard();
        Checks.same("the first call", board.call(Checks.ANN, Checks.DOT, false), 0);
        Checks.same("it starts", board.callState(0), CordBoard.TALKING);
        Checks.same("the second call", board.call(Checks.EVE, Checks.FAY, true), 1);
        Checks.same("it waits", board.callState(1), CordBoard.WAITING);
        // A call on one line needs no cord, and a new call may pass by those that wait.
        CordBoard full = Checks.loaded("board 4 1;user a 0 s 0;user b 1 s 0;user c 2 s 0;user d 2 l 0;user e 3 s 0;");
        full.call(0, 1, false);
        full.call(2, 4, true);
        Checks.same("no cord is free", full.callState(1), CordBoard.WAITING);
        full.call(2, 3, false);
        Checks.same("none is needed", full.callState(2), CordBoard.TALKING);
        Checks.same("changes", full.undoableChanges(), 4);
        for (int wrong : new int[] {-1, 6, Integer.MIN_VALUE, Integer.MAX_VALUE}) {
            Checks.noIndex(board, "call(" + wrong + ", 0)", () -> board.call(wrong, 0, false));
            Checks.noIndex(board, "call(0, " + wrong + ")", () -> board.call(0, wrong, false));
            Checks.noIndex(board, "call(" + wrong + " twice)", () -> board.call(wrong, wrong, true));
        }
        Checks.noArgument(board, "call(3, 3)", () -> board.call(3, 3, false));
        while (board.callCount() < 39) {
            board.call(0, 1, false);
        }
        Checks.same("the last call", board.call(1, 0, false), 39);
        Checks.noState(board, "a 41st call", () -> board.call(1, 0, false));
        Checks.noArgument(board, "a 41st call to oneself", () -> board.call(1, 1, false));
        Checks.noIndex(board, "a 41st call to nobody", () -> board.call(1, 6, false));
    }

    private static void promise9CallTrunk() {
        CordBoard board = new CordBoard();
        Checks.same("the first call", board.callTrunk(Checks.FAY, 0, true), 0);
        Checks.same("it starts", board.callState(0), CordBoard.TALKING);
        Checks.same("the trunk is busy", board.isTrunkBusy(0) ? 1 : 0, 1);
        Checks.same("the line is busy", board.isLineBusy(2) ? 1 : 0, 1);
        Checks.same("it takes a cord", board.freeCords(), 1);
        Checks.same("the second call", board.callTrunk(Checks.ANN, 0, false), 1);
        Checks.same("it waits", board.callState(1), CordBoard.WAITING);
        Checks.same("for the trunk", board.obstacle(1), 2);
        Checks.same("changes", board.undoableChanges(), 2);
        for (int wrong : new int[] {-1, 6, Integer.MIN_VALUE, Integer.MAX_VALUE}) {
            Checks.noIndex(board, "callTrunk(" + wrong + ", 0)", () -> board.callTrunk(wrong, 0, false));
        }
        for (int wrong : new int[] {-1, 1, 4, Integer.MIN_VALUE, Integer.MAX_VALUE}) {
            Checks.noIndex(board, "callTrunk(0, " + wrong + ")", () -> board.callTrunk(0, wrong, false));
        }
        while (board.callCount() < 40) {
            board.callTrunk(0, 0, false);
        }
        Checks.noState(board, "a 41st call", () -> board.callTrunk(1, 0, false));
        Checks.noIndex(board, "a 41st call to no trunk", () -> board.callTrunk(1, 1, false));
        CordBoard none = Checks.loaded("board 1 1;user a 0 s 0;");
        Checks.noIndex(none, "callTrunk without trunks", () -> none.callTrunk(0, 0, false));
    }

    private static void promise10End() {
        CordBoard board = new CordBoard();
        Checks.noIndex(board, "end(0) without calls", () -> board.end(0));
        board.call(Checks.ANN, Checks.DOT, false);
        board.call(Checks.BEA, Checks.CAL, false);
        board.call(Checks.CAL, Checks.ANN, false);
        board.call(Checks.EVE, Checks.DOT, false);
        board.waitFor(7);
        Checks.same("cancel", board.end(2), 0);
        Checks.same("its state", board.callState(2), CordBoard.CANCELLED);
        Checks.same("its end", board.endTime(2), 7);
        Checks.same("its cost", board.bill(Checks.CAL), 0);
        Checks.same("end", board.end(0), 2);
        Checks.same("its state", board.callState(0), CordBoard.ENDED);
        Checks.same("its cost", board.bill(Checks.ANN), 5);
        Checks.same("the bill of the other", board.bill(Checks.DOT), 0);
        Checks.same("a waiting call starts", board.callState(1), CordBoard.TALKING);
        Checks.same("another one starts", board.startTime(3), 7);
        Checks.same("changes", board.undoableChanges(), 7);
        Checks.noState(board, "end of an ended call", () -> board.end(0));
        Checks.noState(board, "end of a cancelled call", () -> board.end(2));
        for (int wrong : new int[] {-1, 4, 40, Integer.MIN_VALUE, Integer.MAX_VALUE}) {
            Checks.noIndex(board, "end(" + wrong + ")", () -> board.end(wrong));
        }
        // The toll counts each minute that was begun, one at least, for the caller.
        int[] seconds = {0, 1, 60, 61, 120, 121};
        int[] minutes = {1, 1, 1, 2, 2, 3};
        for (int index = 0; index < seconds.length; index++) {
            CordBoard toll = new CordBoard();
            toll.callTrunk(Checks.BEA, 0, false);
            if (seconds[index] > 0) {
                toll.waitFor(seconds[index]);
            }
            toll.end(0);
            Checks.same("the toll of " + seconds[index] + " seconds", toll.bill(Checks.BEA), 20 * minutes[index]);
        }
    }

    private static void promise10QueueOrder() {
        CordBoard board = Checks.loaded("board 1 1;user a 0 s 0;user b 0 ls 0;user c 0 ll 0;");
        board.call(0, 1, false);
        board.call(0, 2, false);
        board.call(1, 2, true);
        board.call(1, 0, false);
        board.call(2, 0, true);
        int[] order = {0, 2, 4, 1, 3};
        for (int place = 0; place < order.length; place++) {
            Checks.same("call " + order[place] + " talks", board.callState(order[place]), CordBoard.TALKING);
            Checks.same("alone", board.talkingCalls(), 1);
            Checks.same("its end starts", board.end(order[place]), place < 4 ? 1 : 0);
        }
        // An urgent call that cannot start lets others pass.
        CordBoard busy = Checks.loaded("board 3 3;user a 0 s 0;user b 1 s 0;user c 2 s 0;user d 2 l 0;");
        busy.call(2, 3, false);
        busy.call(0, 1, false);
        busy.call(0, 2, true);
        busy.call(1, 0, false);
        Checks.same("end", busy.end(1), 1);
        Checks.same("the urgent one waits on", busy.callState(2), CordBoard.WAITING);
        Checks.same("the other one starts", busy.callState(3), CordBoard.TALKING);
    }

    private static void promise11WaitFor() {
        CordBoard board = new CordBoard();
        Checks.same("waitFor(1)", board.waitFor(1), 1);
        Checks.same("waitFor(9999)", board.waitFor(9999), 10000);
        Checks.same("clock", board.clock(), 10000);
        Checks.same("changes", board.undoableChanges(), 2);
        for (int wrong : new int[] {0, -1, 10000, Integer.MIN_VALUE, Integer.MAX_VALUE}) {
            Checks.noArgument(board, "waitFor(" + wrong + ")", () -> board.waitFor(wrong));
        }
        for (int times = 0; times < 98; times++) {
            board.waitFor(9999);
        }
        board.waitFor(9998);
        Checks.same("late", board.clock(), 999900);
        Checks.noState(board, "waitFor(100)", () -> board.waitFor(100));
        Checks.noState(board, "waitFor(9999)", () -> board.waitFor(9999));
        Checks.noArgument(board, "waitFor(10000)", () -> board.waitFor(10000));
        Checks.same("waitFor(99)", board.waitFor(99), 999999);
        Checks.noState(board, "waitFor(1)", () -> board.waitFor(1));
    }

    private static void promise12SetCuriosity() {
        CordBoard board = new CordBoard();
        board.call(Checks.ANN, Checks.CAL, false);
        Checks.same("listeners before", board.listeners(0), 1 << Checks.BEA);
        Checks.same("setCuriosity(1, 4)", board.setCuriosity(Checks.BEA, 4), 7);
        Checks.same("setCuriosity(1, 0)", board.setCuriosity(Checks.BEA, 0), 4);
        Checks.same("setCuriosity(4, 9)", board.setCuriosity(Checks.EVE, 9), 9);
        Checks.same("listeners of a call that goes on", board.listeners(0), 1 << Checks.BEA);
        board.end(0);
        board.call(Checks.ANN, Checks.CAL, false);
        Checks.same("listeners of a later call", board.listeners(1), 0);
        Checks.same("changes", board.undoableChanges(), 6);
        for (int wrong : new int[] {-1, 6, Integer.MIN_VALUE, Integer.MAX_VALUE}) {
            Checks.noIndex(board, "setCuriosity(" + wrong + ", 0)", () -> board.setCuriosity(wrong, 0));
            Checks.noIndex(board, "setCuriosity(" + wrong + ", 10)", () -> board.setCuriosity(wrong, 10));
        }
        for (int wrong : new int[] {-1, 10, Integer.MIN_VALUE, Integer.MAX_VALUE}) {
            Checks.noArgument(board, "setCuriosity(0, " + wrong + ")", () -> board.setCuriosity(0, wrong));
        }
    }

    private static void promise13Undo() {
        CordBoard board = new CordBoard();
        String[] states = new String[12];
        Runnable[] changes = {() -> board.call(0, 3, true), () -> board.callTrunk(5, 0, false),
            () -> board.waitFor(70), () -> board.end(0), () -> board.setCuriosity(0, 9), () -> board.end(1),
            () -> Checks.play(board, "call ann bea;wait 5;"), () -> Checks.load(board, "board 1 1;user x 0 s 1;"),
            () -> board.waitFor(3), () -> board.restore(0), () -> Checks.play(board, "")};
        board.save(0);
        for (int index = 0; index < changes.length; index++) {
            states[index] = Checks.showState(board);
            changes[index].run();
            Checks.same("changes", board.undoableChanges(), Math.min(8, index + 1));
        }
        for (int left = 7; left >= 0; left--) {
            Checks.same("undo", board.undo(), left);
            Checks.same("the state before", Checks.showState(board), states[left + 3]);
        }
        Checks.noState(board, "undo of a discarded change", () -> board.undo());
        // A call that takes the number of one that was undone has nothing of it.
        CordBoard again = new CordBoard();
        again.call(Checks.ANN, Checks.DOT, false);
        again.callTrunk(Checks.FAY, 0, true);
        again.end(1);
        again.undo();
        again.undo();
        again.call(Checks.CAL, Checks.ANN, false);
        Checks.same("its state", again.callState(1), CordBoard.WAITING);
        Checks.same("its end", again.endTime(1), CordBoard.NONE);
        Checks.same("its trunk", again.calledTrunk(1), CordBoard.NONE);
        again.undo();
        again.undo();
        again.call(Checks.EVE, Checks.DOT, false);
        again.call(Checks.EVE, Checks.ANN, false);
        again.undo();
        again.undo();
        again.call(Checks.FAY, Checks.EVE, false);
        again.call(Checks.ANN, Checks.EVE, true);
        Checks.same("its listeners", again.listeners(1), 0);
        // What comes after an undo takes the place of what was undone.
        board.waitFor(4);
        String later = Checks.showState(board);
        board.waitFor(5);
        Checks.same("undo again", board.undo(), 1);
        Checks.same("the state", Checks.showState(board), later);
        // Input, error, output and saved states stay as they are.
        CordBoard other = new CordBoard();
        other.waitFor(5);
        other.call(0, 1, false);
        other.writeCalls();
        Checks.load(other, "board 0 1;");
        other.save(1);
        Checks.type(other, "wait 7;");
        other.undo();
        Checks.same("the code", other.errorCode(), 2);
        Checks.same("the offset", other.errorOffset(), 6);
        Checks.same("the output", other.outputByte(0), 'a');
        Checks.same("the input", Checks.inputLength(other), 7);
        Checks.same("the saved state", other.restore(1), 5);
        Checks.same("with its call", other.callCount(), 1);
    }

    private static void promise14Save() {
        CordBoard board = new CordBoard();
        board.waitFor(9);
        Checks.same("save(0)", board.save(0), 9);
        board.waitFor(1);
        Checks.same("save(1)", board.save(1), 10);
        board.waitFor(1);
        Checks.same("no change", board.undoableChanges(), 3);
        Checks.same("save(1) again", board.save(1), 11);
        Checks.same("slot 0", board.restore(0), 9);
        Checks.same("slot 1", board.restore(1), 11);
        for (int wrong : new int[] {-1, 2, Integer.MIN_VALUE, Integer.MAX_VALUE}) {
            Checks.noArgument(board, "save(" + wrong + ")", () -> board.save(wrong));
        }
    }

    private static void promise15Restore() {
        CordBoard board = new CordBoard();
        Checks.noState(board, "restore(0)", () -> board.restore(0));
        board.call(0, 3, false);
        board.call(1, 2, true);
        board.callTrunk(5, 0, true);
        board.waitFor(30);
        board.save(1);
        String saved = Checks.showState(board);
        board.end(0);
        board.setCuriosity(0, 9);
        Checks.same("restore(1)", board.restore(1), 30);
        Checks.same("the state", Checks.showState(board), saved);
        Checks.same("it is a change", board.undoableChanges(), 7);
        board.end(0);
        board.waitFor(1);
        Checks.same("the state stays saved", board.restore(1), 30);
        Checks.same("as it was", Checks.showState(board), saved);
        board.undo();
        Checks.same("undo of restore", board.clock(), 31);
        Checks.noState(board, "restore(0)", () -> board.restore(0));
        for (int wrong : new int[] {-1, 2, Integer.MIN_VALUE, Integer.MAX_VALUE}) {
            Checks.noArgument(board, "restore(" + wrong + ")", () -> board.restore(wrong));
        }
        Checks.load(board, "board 1 1;user x 0 s 1;");
        Checks.same("load keeps what is saved", board.restore(1), 30);
        Checks.same("as it was", Checks.showState(board), saved);
    }
}
