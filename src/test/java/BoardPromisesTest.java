/** Promises 16 to 28: what the board shows. */
public final class BoardPromisesTest {
    private BoardPromisesTest() {
    }

    public static void main(String[] args) {
        promise16Clock();
        promise17LineCount();
        promise18CordCount();
        promise19FreeCords();
        promise20TrunkCount();
        promise21SubscriberCount();
        promise22CallCount();
        promise23And24CallsByState();
        promise25UndoableChanges();
        promise26IsLineBusy();
        promise27IsTrunkBusy();
        promise28Toll();
        Checks.end();
    }

    private static void promise16Clock() {
        CordBoard board = new CordBoard();
        Checks.same("clock at first", board.clock(), 0);
        board.waitFor(17);
        board.waitFor(4);
        Checks.same("clock later", board.clock(), 21);
    }

    private static void promise17LineCount() {
        Checks.same("lines of a new object", new CordBoard().lineCount(), 3);
        for (int lines = 1; lines <= 6; lines++) {
            Checks.same("lines", Checks.loaded("board " + lines + " 4;user a 0 s 0;").lineCount(), lines);
        }
    }

    private static void promise18CordCount() {
        CordBoard board = new CordBoard();
        Checks.same("cords of a new object", board.cordCount(), 2);
        board.call(0, 3, false);
        Checks.same("cords while one is busy", board.cordCount(), 2);
        for (int cords = 1; cords <= 6; cords++) {
            Checks.same("cords", Checks.loaded("board 4 " + cords + ";user a 0 s 0;").cordCount(), cords);
        }
    }

    private static void promise19FreeCords() {
        CordBoard board = new CordBoard();
        Checks.same("free at first", board.freeCords(), 2);
        board.call(Checks.DOT, Checks.EVE, false);
        Checks.same("a call on one line takes none", board.freeCords(), 2);
        board.call(Checks.ANN, Checks.FAY, false);
        Checks.same("a call between lines takes one", board.freeCords(), 1);
        board.callTrunk(Checks.CAL, 0, false);
        Checks.same("a waiting call takes none", board.freeCords(), 1);
        board.end(1);
        Checks.same("a call to a trunk takes one", board.freeCords(), 1);
        board.end(2);
        Checks.same("an ended call takes none", board.freeCords(), 2);
    }

    private static void promise20TrunkCount() {
        Checks.same("trunks of a new object", new CordBoard().trunkCount(), 1);
        String trunks = "";
        for (int count = 0; count <= 4; count++) {
            Checks.same("trunks", Checks.loaded("board 1 1;" + trunks + "user a 0 s 0;").trunkCount(), count);
            trunks += "trunk " + (count + 1) + ";";
        }
    }

    private static void promise21SubscriberCount() {
        CordBoard board = new CordBoard();
        Checks.same("subscribers of a new object", board.subscriberCount(), 6);
        Checks.load(board, "board 1 1;user a 0 s 0;");
        Checks.same("a single one", board.subscriberCount(), 1);
        board.undo();
        Checks.same("after undo", board.subscriberCount(), 6);
    }

    private static void promise22CallCount() {
        CordBoard board = new CordBoard();
        Checks.same("calls at first", board.callCount(), 0);
        board.call(0, 1, false);
        board.call(0, 1, false);
        board.callTrunk(0, 0, false);
        board.end(0);
        board.end(2);
        Checks.same("calls of all states", board.callCount(), 3);
        Checks.load(board, Checks.SETUP);
        Checks.same("calls after load", board.callCount(), 0);
    }

    private static void promise23And24CallsByState() {
        CordBoard board = new CordBoard();
        Checks.same("waiting at first", board.waitingCalls(), 0);
        Checks.same("talking at first", board.talkingCalls(), 0);
        board.call(0, 1, false);
        board.call(1, 2, false);
        board.callTrunk(2, 0, false);
        board.call(3, 4, true);
        Checks.same("waiting", board.waitingCalls(), 2);
        Checks.same("talking", board.talkingCalls(), 2);
        board.end(1);
        Checks.same("waiting after a cancel", board.waitingCalls(), 1);
        board.end(0);
        Checks.same("waiting after an end", board.waitingCalls(), 0);
        Checks.same("talking after an end", board.talkingCalls(), 2);
        board.end(2);
        board.end(3);
        Checks.same("talking after all", board.talkingCalls(), 0);
    }

    private static void promise25UndoableChanges() {
        CordBoard board = new CordBoard();
        for (int changes = 1; changes <= 10; changes++) {
            board.setCuriosity(0, 2);
            Checks.same("changes", board.undoableChanges(), Math.min(8, changes));
        }
        board.undo();
        Checks.same("changes after undo", board.undoableChanges(), 7);
        board.save(0);
        Checks.same("changes after save", board.undoableChanges(), 7);
        Checks.play(board, "end 0;");
        Checks.load(board, "end 0;");
        Checks.same("changes after errors", board.undoableChanges(), 7);
    }

    private static void promise26IsLineBusy() {
        CordBoard board = new CordBoard();
        board.call(Checks.ANN, Checks.DOT, false);
        board.call(Checks.FAY, Checks.BEA, false);
        Checks.yes("line 0 is busy", board.isLineBusy(0));
        Checks.yes("line 1 is busy", board.isLineBusy(1));
        Checks.yes("line 2 is not", !board.isLineBusy(2));
        board.end(0);
        Checks.yes("line 0 is busy again", board.isLineBusy(0));
        Checks.yes("line 1 is free", !board.isLineBusy(1));
        Checks.yes("line 2 is busy", board.isLineBusy(2));
        for (int wrong : new int[] {-1, 3, 6, 31, 32, Integer.MIN_VALUE, Integer.MAX_VALUE}) {
            Checks.noIndex(board, "isLineBusy(" + wrong + ")", () -> board.isLineBusy(wrong));
        }
    }

    private static void promise27IsTrunkBusy() {
        CordBoard board = Checks.loaded("board 2 2;trunk 1;trunk 2;user a 0 s 0;user b 1 s 0;");
        Checks.yes("trunk 1 is free", !board.isTrunkBusy(1));
        board.callTrunk(0, 1, false);
        board.callTrunk(0, 0, false);
        Checks.yes("trunk 0 is free", !board.isTrunkBusy(0));
        Checks.yes("trunk 1 is busy", board.isTrunkBusy(1));
        board.end(0);
        Checks.yes("trunk 0 is busy", board.isTrunkBusy(0));
        Checks.yes("trunk 1 is free again", !board.isTrunkBusy(1));
        // No line stands for a trunk.
        CordBoard wide = Checks.loaded("board 6 6;trunk 1;trunk 2;trunk 3;trunk 4;user a 0 s 0;user b 1 s 0;"
                + "user c 2 s 0;user d 3 s 0;user e 4 s 0;user f 5 s 0;");
        wide.call(5, 4, false);
        for (int trunk = 0; trunk < 4; trunk++) {
            Checks.yes("all trunks are free", !wide.isTrunkBusy(trunk));
            wide.callTrunk(trunk, trunk, false);
            Checks.same("obstacle", wide.obstacle(1 + trunk), 0);
            Checks.yes("the trunk is busy", wide.isTrunkBusy(trunk));
        }
        Checks.same("free cords", wide.freeCords(), 1);
        for (int wrong : new int[] {-1, 2, 4, Integer.MIN_VALUE, Integer.MAX_VALUE}) {
            Checks.noIndex(board, "isTrunkBusy(" + wrong + ")", () -> board.isTrunkBusy(wrong));
        }
    }

    private static void promise28Toll() {
        CordBoard board = Checks.loaded("board 1 1;trunk 7;trunk 99;trunk 1;trunk 42;user a 0 s 0;");
        Checks.same("toll 0", board.toll(0), 7);
        Checks.same("toll 1", board.toll(1), 99);
        Checks.same("toll 2", board.toll(2), 1);
        Checks.same("toll 3", board.toll(3), 42);
        for (int wrong : new int[] {-1, 4, Integer.MIN_VALUE, Integer.MAX_VALUE}) {
            Checks.noIndex(board, "toll(" + wrong + ")", () -> board.toll(wrong));
        }
        Checks.noIndex(new CordBoard(), "toll(1)", () -> new CordBoard().toll(1));
    }
}
