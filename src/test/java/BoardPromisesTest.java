/** Promises 16 to 28: what the board shows. */
public final class BoardPromisesTest {
    private static final String WIDE = "board 6 6;trunk 1;trunk 2;trunk 3;trunk 99;user a 0 s 0;user b 1 s 0;"
            + "user c 2 s 0;user d 3 s 0;user e 4 s 0;user f 5 s 0;user g 5 l 0;";

    private BoardPromisesTest() {
    }

    public static void main(String[] args) {
        promise16Clock();
        promise17LineCount();
        promise18CordCount();
        promise19FreeCords();
        promise19AllCordsBusy();
        promise20TrunkCount();
        promise21SubscriberCount();
        promise22CallCount();
        promise23WaitingCalls();
        promise24TalkingCalls();
        promise25UndoableChanges();
        promise26IsLineBusy();
        promise26FirstAndLastLine();
        promise26Refused();
        promise27IsTrunkBusy();
        promise27FirstAndLastTrunk();
        promise27Refused();
        promise28Toll();
        promise28Refused();
        Checks.end();
    }

    private static CordBoard wide() {
        return Checks.loaded(WIDE);
    }

    private static void promise16Clock() {
        CordBoard board = new CordBoard();
        Checks.same("clock at first", board.clock(), 0);
        board.waitFor(17);
        board.waitFor(4);
        Checks.same("clock later", board.clock(), 21);
        Checks.play(board, "wait 9;wait 1;");
        Checks.same("clock after a script", board.clock(), 31);
        Checks.same("the last clock", Checks.late(999999).clock(), 999999);
    }

    private static void promise17LineCount() {
        Checks.same("lines of a new object", new CordBoard().lineCount(), 3);
        for (int lines = 1; lines <= 6; lines++) {
            Checks.same("lines", Checks.loaded("board " + lines + " 4;user a 0 s 0;").lineCount(), lines);
        }
    }

    private static void promise18CordCount() {
        CordBoard board = new CordBoard();
        Checks.same("cords of a new object", board.cordCount(), 2);
        board.call(Checks.ANN, Checks.DOT, false);
        Checks.same("cords while one is busy", board.cordCount(), 2);
        for (int cords = 1; cords <= 6; cords++) {
            Checks.same("cords", Checks.loaded("board 4 " + cords + ";user a 0 s 0;").cordCount(), cords);
        }
    }

    /** "Returns the number of cords that are not busy." */
    private static void promise19FreeCords() {
        CordBoard board = new CordBoard();
        Checks.same("free at first", board.freeCords(), 2);
        board.call(Checks.DOT, Checks.EVE, false);
        Checks.same("a call on one line takes none", board.freeCords(), 2);
        board.call(Checks.ANN, Checks.FAY, false);
        Checks.same("a call between lines takes one", board.freeCords(), 1);
        board.callTrunk(Checks.CAL, 0, false);
        Checks.same("a waiting call takes none", board.freeCords(), 1);
        board.end(1);
        Checks.same("a call to a trunk takes one", board.freeCords(), 1);
        board.end(2);
        Checks.same("an ended call takes none", board.freeCords(), 2);
    }

    private static void promise19AllCordsBusy() {
        CordBoard two = Checks.played(Checks.SETUP, "call ann dot;trunk fay 0;");
        Checks.same("none of two", two.freeCords(), 0);
        two.end(0);
        Checks.same("one of two", two.freeCords(), 1);
        CordBoard six = wide();
        for (int trunk = 0; trunk < 4; trunk++) {
            six.callTrunk(trunk, trunk, false);
            Checks.same("less by one", six.freeCords(), 5 - trunk);
        }
        six.call(4, 5, false);
        Checks.same("one of six", six.freeCords(), 1);
        CordBoard one = Checks.played("board 2 1;user a 0 s 0;user b 1 s 0;", "call a b;");
        Checks.same("none of one", one.freeCords(), 0);
    }

    private static void promise20TrunkCount() {
        Checks.same("trunks of a new object", new CordBoard().trunkCount(), 1);
        for (int count = 0; count <= 4; count++) {
            String setup = "board 1 1;" + Checks.repeat("trunk 3;", count) + "user a 0 s 0;";
            Checks.same("trunks", Checks.loaded(setup).trunkCount(), count);
        }
    }

    private static void promise21SubscriberCount() {
        CordBoard board = new CordBoard();
        Checks.same("subscribers of a new object", board.subscriberCount(), 6);
        Checks.load(board, "board 1 1;user a 0 s 0;");
        Checks.same("a single one", board.subscriberCount(), 1);
        Checks.load(board, Checks.crowd(15, 1, 0));
        Checks.same("fifteen", board.subscriberCount(), 15);
        board.undo();
        board.undo();
        Checks.same("after undo", board.subscriberCount(), 6);
    }

    private static void promise22CallCount() {
        Checks.same("calls at first", new CordBoard().callCount(), 0);
        Checks.same("calls of all states", Checks.used().callCount(), 4);
        Checks.same("forty calls", Checks.withCalls(40).callCount(), 40);
        CordBoard board = Checks.used();
        Checks.load(board, Checks.SETUP);
        Checks.same("calls after load", board.callCount(), 0);
    }

    private static void promise23WaitingCalls() {
        CordBoard board = new CordBoard();
        Checks.same("at first", board.waitingCalls(), 0);
        board.call(Checks.ANN, Checks.BEA, false);
        Checks.same("a talking call", board.waitingCalls(), 0);
        board.call(Checks.BEA, Checks.CAL, false);
        Checks.same("a waiting call", board.waitingCalls(), 1);
        board.callTrunk(Checks.CAL, 0, true);
        Checks.same("an urgent one too", board.waitingCalls(), 2);
        board.end(1);
        Checks.same("after a cancel", board.waitingCalls(), 1);
        board.end(0);
        Checks.same("after an end", board.waitingCalls(), 0);
        Checks.same("all but one", Checks.withCalls(40).waitingCalls(), 39);
    }

    private static void promise24TalkingCalls() {
        CordBoard board = new CordBoard();
        Checks.same("at first", board.talkingCalls(), 0);
        board.call(Checks.ANN, Checks.BEA, false);
        Checks.same("a talking call", board.talkingCalls(), 1);
        board.call(Checks.BEA, Checks.CAL, true);
        Checks.same("a waiting call", board.talkingCalls(), 1);
        board.callTrunk(Checks.DOT, 0, false);
        Checks.same("two", board.talkingCalls(), 2);
        board.end(0);
        Checks.same("one ends and one starts", board.talkingCalls(), 2);
        board.end(1);
        board.end(2);
        Checks.same("after all", board.talkingCalls(), 0);
        CordBoard five = Checks.played(WIDE, "trunk a 0;trunk b 1;trunk c 2;trunk d 3;call f g;");
        Checks.same("four trunks and a line", five.talkingCalls(), 5);
        CordBoard six = Checks.loaded(Checks.crowd(12, 6, 0));
        for (int line = 0; line < 6; line++) {
            six.call(line, line + 6, false);
        }
        Checks.same("one for each line", six.talkingCalls(), 6);
    }

    /** "Returns the number of changes that can be undone", 0 to 8. */
    private static void promise25UndoableChanges() {
        CordBoard board = new CordBoard();
        Checks.same("at first", board.undoableChanges(), 0);
        for (int changes = 1; changes <= 10; changes++) {
            board.setCuriosity(0, 2);
            Checks.same("changes", board.undoableChanges(), Math.min(8, changes));
        }
        for (int left = 7; left >= 0; left--) {
            board.undo();
            Checks.same("after undo", board.undoableChanges(), left);
        }
    }

    private static void promise26IsLineBusy() {
        CordBoard board = new CordBoard();
        board.call(Checks.ANN, Checks.DOT, false);
        board.call(Checks.FAY, Checks.BEA, false);
        Checks.yes("line 0 is busy", board.isLineBusy(0));
        Checks.yes("line 1 is busy", board.isLineBusy(1));
        Checks.yes("line 2 is not", !board.isLineBusy(2));
        board.end(0);
        Checks.yes("line 0 is busy again", board.isLineBusy(0));
        Checks.yes("line 1 is free", !board.isLineBusy(1));
        Checks.yes("line 2 is busy", board.isLineBusy(2));
    }

    private static void promise26FirstAndLastLine() {
        CordBoard board = wide();
        for (int line = 0; line < 6; line++) {
            Checks.yes("no line is busy", !board.isLineBusy(line));
        }
        board.call(5, 0, false);
        for (int line = 0; line < 6; line++) {
            Checks.yes("the first and the last are busy", board.isLineBusy(line) == (line == 0 || line == 5));
        }
        // No trunk stands for a line.
        CordBoard trunks = Checks.played(WIDE, "trunk c 3;trunk d 0;");
        for (int line = 0; line < 6; line++) {
            Checks.yes("lines 2 and 3 are busy", trunks.isLineBusy(line) == (line == 2 || line == 3));
        }
        Checks.noIndex(BoardPromisesTest::wide, "isLineBusy(6)", six -> six.isLineBusy(6));
    }

    private static void promise26Refused() {
        for (int wrong : new int[] {-1, 3, 5, 6, 31, 32, Checks.MIN, Checks.MAX}) {
            Checks.noIndex(Checks::used, "isLineBusy(" + wrong + ")", board -> board.isLineBusy(wrong));
        }
        Checks.noIndex(() -> Checks.loaded("board 1 1;user a 0 s 0;"), "isLineBusy(1)", board -> board.isLineBusy(1));
    }

    private static void promise27IsTrunkBusy() {
        CordBoard board = Checks.loaded("board 2 2;trunk 1;trunk 2;user a 0 s 0;user b 1 s 0;");
        Checks.yes("trunk 1 is free", !board.isTrunkBusy(1));
        board.callTrunk(0, 1, false);
        board.callTrunk(0, 0, false);
        Checks.yes("trunk 0 is free", !board.isTrunkBusy(0));
        Checks.yes("trunk 1 is busy", board.isTrunkBusy(1));
        board.end(0);
        Checks.yes("trunk 0 is busy", board.isTrunkBusy(0));
        Checks.yes("trunk 1 is free again", !board.isTrunkBusy(1));
    }

    private static void promise27FirstAndLastTrunk() {
        CordBoard board = wide();
        // No line stands for a trunk.
        board.call(5, 4, false);
        for (int trunk = 0; trunk < 4; trunk++) {
            Checks.yes("the trunk is free", !board.isTrunkBusy(trunk));
            board.callTrunk(trunk, trunk, false);
            Checks.same("it talks", board.callState(1 + trunk), CordBoard.TALKING);
            Checks.yes("the trunk is busy", board.isTrunkBusy(trunk));
        }
        Checks.noIndex(BoardPromisesTest::wide, "isTrunkBusy(4)", four -> four.isTrunkBusy(4));
    }

    private static void promise27Refused() {
        for (int wrong : new int[] {-1, 1, 3, 4, 26, 32, Checks.MIN, Checks.MAX}) {
            Checks.noIndex(Checks::used, "isTrunkBusy(" + wrong + ")", board -> board.isTrunkBusy(wrong));
        }
        Checks.noIndex(() -> Checks.loaded("board 1 1;user a 0 s 0;"), "isTrunkBusy(0)", board -> board.isTrunkBusy(0));
    }

    private static void promise28Toll() {
        CordBoard board = Checks.loaded("board 1 1;trunk 7;trunk 99;trunk 1;trunk 42;user a 0 s 0;");
        Checks.same("toll 0", board.toll(0), 7);
        Checks.same("toll 1", board.toll(1), 99);
        Checks.same("toll 2", board.toll(2), 1);
        Checks.same("toll 3", board.toll(3), 42);
        Checks.same("toll of the first board", new CordBoard().toll(0), 20);
    }

    private static void promise28Refused() {
        for (int wrong : new int[] {-1, 4, 5, Checks.MIN, Checks.MAX}) {
            Checks.noIndex(BoardPromisesTest::wide, "toll(" + wrong + ")", board -> board.toll(wrong));
        }
        Checks.noIndex(Checks::used, "toll(1)", board -> board.toll(1));
        Checks.noIndex(() -> Checks.loaded("board 1 1;user a 0 s 0;"), "toll(0)", board -> board.toll(0));
    }
}
