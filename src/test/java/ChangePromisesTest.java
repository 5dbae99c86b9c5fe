/** Promises 8 to 15: changes, undo, save and restore. TermsUndoTest has what they share. */
public final class ChangePromisesTest {
    private static final int[] NO_USERS = {-1, 6, 7, 15, 32, Checks.MIN, Checks.MAX};
    private static final int[] NO_CALLS = {-1, 4, 5, 39, 40, Checks.MIN, Checks.MAX};

    private ChangePromisesTest() {
    }

    public static void main(String[] args) {
        promise8Call();
        promise8FirstAndLastUser();
        promise8Refused();
        promise8FortyCalls();
        promise9CallTrunk();
        promise9FirstAndLastTrunk();
        promise9Refused();
        promise9FortyCalls();
        promise10EndsATalkingCall();
        promise10CancelsAWaitingCall();
        promise10AnswersHowManyStart();
        promise10FirstAndLastCall();
        promise10Refused();
        promise11WaitFor();
        promise11Refused();
        promise11LastSecond();
        promise11StartsNoCall();
        promise12SetCuriosity();
        promise12MattersLater();
        promise12Refused();
        promise13Undo();
        promise13Refused();
        promise14Save();
        promise14Overwrites();
        promise14Refused();
        promise15Restore();
        promise15StateStaysSaved();
        promise15Refused();
        Checks.end();
    }

    private static void promise8Call() {
        CordBoard board = new CordBoard();
        Checks.same("the first call", board.call(Checks.ANN, Checks.DOT, false), 0);
        Checks.same("it starts", board.callState(0), CordBoard.TALKING);
        Checks.same("its start", board.startTime(0), 0);
        Checks.same("its caller", board.callerOf(0), Checks.ANN);
        Checks.same("its other", board.calledSubscriber(0), Checks.DOT);
        Checks.yes("not urgent", !board.isUrgent(0));
        Checks.same("the second call", board.call(Checks.EVE, Checks.FAY, true), 1);
        Checks.same("it waits", board.callState(1), CordBoard.WAITING);
        Checks.yes("urgent", board.isUrgent(1));
        Checks.same("changes", board.undoableChanges(), 2);
    }

    private static void promise8FirstAndLastUser() {
        Checks.same("from 0 to 5", new CordBoard().call(0, 5, false), 0);
        Checks.same("from 5 to 0", new CordBoard().call(5, 0, false), 0);
        CordBoard crowd = Checks.loaded(Checks.crowd(15, 2, 9));
        Checks.same("from 14 to 0", crowd.call(14, 0, false), 0);
        Checks.same("from 0 to 14", crowd.call(0, 14, false), 1);
        Checks.same("the last caller", crowd.callerOf(0), 14);
        Checks.noIndex(() -> Checks.loaded(Checks.crowd(15, 2, 9)), "call(15, 0)", board -> board.call(15, 0, false));
        Checks.noIndex(() -> Checks.loaded(Checks.crowd(15, 2, 9)), "call(0, 15)", board -> board.call(0, 15, false));
    }

    private static void promise8Refused() {
        for (int wrong : NO_USERS) {
            Checks.noIndex(Checks::used, "call(" + wrong + ", 0)", board -> board.call(wrong, 0, false));
            Checks.noIndex(Checks::used, "call(0, " + wrong + ")", board -> board.call(0, wrong, false));
            Checks.noIndex(Checks::used, "call(" + wrong + " twice)", board -> board.call(wrong, wrong, true));
        }
        for (int user = 0; user < 6; user++) {
            int same = user;
            Checks.noArgument(Checks::used, "call to oneself", board -> board.call(same, same, false));
        }
    }

    private static void promise8FortyCalls() {
        Checks.same("the 39th call", Checks.withCalls(38).call(1, 0, false), 38);
        Checks.same("the 40th call", Checks.withCalls(39).call(1, 0, true), 39);
        Checks.noState(() -> Checks.withCalls(40), "a 41st call", board -> board.call(1, 0, false));
        Checks.noArgument(() -> Checks.withCalls(40), "a 41st call to oneself", board -> board.call(1, 1, false));
        Checks.noIndex(() -> Checks.withCalls(40), "a 41st call to nobody", board -> board.call(1, 2, false));
    }

    private static void promise9CallTrunk() {
        CordBoard board = new CordBoard();
        Checks.same("the first call", board.callTrunk(Checks.FAY, 0, true), 0);
        Checks.same("it starts", board.callState(0), CordBoard.TALKING);
        Checks.same("its caller", board.callerOf(0), Checks.FAY);
        Checks.same("its trunk", board.calledTrunk(0), 0);
        Checks.yes("urgent", board.isUrgent(0));
        Checks.yes("the trunk is busy", board.isTrunkBusy(0));
        Checks.yes("the line is busy", board.isLineBusy(2));
        Checks.same("it takes a cord", board.freeCords(), 1);
        Checks.same("the second call", board.callTrunk(Checks.ANN, 0, false), 1);
        Checks.same("it waits", board.callState(1), CordBoard.WAITING);
        Checks.yes("not urgent", !board.isUrgent(1));
        Checks.same("changes", board.undoableChanges(), 2);
    }

    private static CordBoard fourTrunks() {
        return Checks.loaded("board 2 3;trunk 1;trunk 2;trunk 3;trunk 4;user a 0 s 0;user b 1 l 0;");
    }

    private static void promise9FirstAndLastTrunk() {
        CordBoard board = fourTrunks();
        board.callTrunk(0, 0, false);
        board.callTrunk(1, 3, false);
        Checks.same("the first trunk", board.calledTrunk(0), 0);
        Checks.same("the last trunk", board.calledTrunk(1), 3);
        Checks.same("both talk", board.talkingCalls(), 2);
        Checks.noIndex(ChangePromisesTest::fourTrunks, "callTrunk(0, 4)", wrong -> wrong.callTrunk(0, 4, false));
        Checks.noIndex(ChangePromisesTest::fourTrunks, "callTrunk(2, 3)", wrong -> wrong.callTrunk(2, 3, false));
        Checks.noIndex(() -> Checks.loaded("board 1 1;user a 0 s 0;"), "callTrunk without trunks",
                none -> none.callTrunk(0, 0, false));
    }

    private static void promise9Refused() {
        for (int wrong : NO_USERS) {
            Checks.noIndex(Checks::used, "callTrunk(" + wrong + ", 0)", board -> board.callTrunk(wrong, 0, false));
        }
        for (int wrong : new int[] {-1, 1, 2, 4, 32, Checks.MIN, Checks.MAX}) {
            Checks.noIndex(Checks::used, "callTrunk(0, " + wrong + ")", board -> board.callTrunk(0, wrong, true));
        }
    }

    private static void promise9FortyCalls() {
        Checks.same("the 40th call", Checks.withCalls(39).callTrunk(1, 0, true), 39);
        Checks.noState(() -> Checks.withCalls(40), "a 41st call", board -> board.callTrunk(1, 0, false));
        Checks.noIndex(() -> Checks.withCalls(40), "a 41st call to no trunk", board -> board.callTrunk(1, 1, false));
        Checks.noIndex(() -> Checks.withCalls(40), "a 41st call of nobody", board -> board.callTrunk(2, 0, false));
    }

    private static void promise10EndsATalkingCall() {
        CordBoard board = new CordBoard();
        board.call(Checks.ANN, Checks.DOT, false);
        board.waitFor(7);
        Checks.same("end", board.end(0), 0);
        Checks.same("its state", board.callState(0), CordBoard.ENDED);
        Checks.same("its end", board.endTime(0), 7);
        Checks.same("the bill of the caller", board.bill(Checks.ANN), 5);
        Checks.same("the bill of the other", board.bill(Checks.DOT), 0);
        Checks.same("free cords", board.freeCords(), 2);
        Checks.yes("line 0 is free", !board.isLineBusy(0));
        Checks.yes("line 1 is free", !board.isLineBusy(1));
        Checks.same("changes", board.undoableChanges(), 3);
    }

    private static void promise10CancelsAWaitingCall() {
        CordBoard board = new CordBoard();
        board.call(Checks.ANN, Checks.DOT, false);
        board.call(Checks.BEA, Checks.CAL, true);
        board.waitFor(7);
        Checks.same("cancel", board.end(1), 0);
        Checks.same("its state", board.callState(1), CordBoard.CANCELLED);
        Checks.same("its end", board.endTime(1), 7);
        Checks.same("its start", board.startTime(1), CordBoard.NONE);
        Checks.same("its cost", board.bill(Checks.BEA), 0);
        Checks.same("changes", board.undoableChanges(), 4);
        Checks.same("it does not start any more", board.end(0), 0);
        Checks.same("its state still", board.callState(1), CordBoard.CANCELLED);
    }

    private static void promise10AnswersHowManyStart() {
        CordBoard none = Checks.played(Checks.SETUP, "call ann dot;call fay eve;");
        Checks.same("one starts", none.end(0), 1);
        Checks.same("none is left", none.end(1), 0);
        CordBoard three = Checks.played("board 6 6;trunk 1;user a 0 s 0;user b 1 s 0;user c 0 l 0;user d 1 l 0;"
                + "user e 2 s 0;", "call a b;call c a;call d b;call b d urgent;trunk e 0;");
        Checks.same("two start", three.end(0), 2);
        Checks.same("the urgent one", three.callState(3), CordBoard.TALKING);
        Checks.same("not the other of its line", three.callState(2), CordBoard.WAITING);
        Checks.same("it starts later", three.end(3), 1);
    }

    private static void promise10FirstAndLastCall() {
        CordBoard board = Checks.withCalls(40);
        Checks.same("end of the last call", board.end(39), 0);
        Checks.same("its state", board.callState(39), CordBoard.CANCELLED);
        Checks.same("end of the first call", board.end(0), 1);
        Checks.same("its state", board.callState(0), CordBoard.ENDED);
        Checks.noIndex(() -> Checks.withCalls(40), "end(40)", full -> full.end(40));
        Checks.noIndex(() -> Checks.withCalls(39), "end(39)", full -> full.end(39));
        Checks.noIndex(CordBoard::new, "end(0) without calls", none -> none.end(0));
    }

    private static void promise10Refused() {
        for (int wrong : NO_CALLS) {
            Checks.noIndex(Checks::used, "end(" + wrong + ")", board -> board.end(wrong));
        }
        Checks.noState(Checks::used, "end of an ended call", board -> board.end(0));
        Checks.noState(Checks::used, "end of a cancelled call", board -> board.end(2));
    }

    private static void promise11WaitFor() {
        CordBoard board = new CordBoard();
        Checks.same("waitFor(1)", board.waitFor(1), 1);
        Checks.same("waitFor(9999)", board.waitFor(9999), 10000);
        Checks.same("clock", board.clock(), 10000);
        Checks.same("changes", board.undoableChanges(), 2);
    }

    private static void promise11Refused() {
        for (int wrong : new int[] {0, -1, 10000, -9999, Checks.MIN, Checks.MAX}) {
            Checks.noArgument(Checks::used, "waitFor(" + wrong + ")", board -> board.waitFor(wrong));
        }
    }

    private static void promise11LastSecond() {
        Checks.same("waitFor(99)", Checks.late(999900).waitFor(99), 999999);
        Checks.noState(() -> Checks.late(999900), "waitFor(100)", board -> board.waitFor(100));
        Checks.noState(() -> Checks.late(999900), "waitFor(9999)", board -> board.waitFor(9999));
        Checks.noArgument(() -> Checks.late(999900), "waitFor(10000)", board -> board.waitFor(10000));
        Checks.noState(() -> Checks.late(999999), "waitFor(1)", board -> board.waitFor(1));
        CordBoard board = Checks.late(999999);
        board.undo();
        Checks.same("after undo there is time again", board.waitFor(99), 999999);
    }

    private static void promise11StartsNoCall() {
        CordBoard board = Checks.used();
        board.waitFor(9999);
        Checks.same("the talking call", board.callState(1), CordBoard.TALKING);
        Checks.same("the waiting call", board.callState(3), CordBoard.WAITING);
    }

    private static void promise12SetCuriosity() {
        CordBoard board = new CordBoard();
        Checks.same("setCuriosity(1, 0)", board.setCuriosity(Checks.BEA, 0), 7);
        Checks.same("setCuriosity(1, 9)", board.setCuriosity(Checks.BEA, 9), 0);
        Checks.same("the same again", board.setCuriosity(Checks.BEA, 9), 9);
        Checks.same("curiosity", board.curiosity(Checks.BEA), 9);
        Checks.same("the first user", board.setCuriosity(0, 5), 2);
        Checks.same("the last user", board.setCuriosity(5, 1), 6);
        Checks.same("others stay", board.curiosity(Checks.CAL), 5);
        Checks.same("changes", board.undoableChanges(), 5);
    }

    /** "It matters for calls that start later." */
    private static void promise12MattersLater() {
        CordBoard board = new CordBoard();
        board.call(Checks.ANN, Checks.CAL, false);
        board.setCuriosity(Checks.BEA, 4);
        Checks.same("listeners of a call that goes on", board.listeners(0), 1 << Checks.BEA);
        Checks.same("its volume", board.volume(0), 90);
        board.end(0);
        board.call(Checks.ANN, Checks.CAL, false);
        Checks.same("listeners of a later call", board.listeners(1), 0);
        board.setCuriosity(Checks.BEA, 5);
        Checks.same("still none", board.listeners(1), 0);
        Checks.same("bea learns nothing", board.secretsKnown(Checks.BEA), 7);
    }

    private static void promise12Refused() {
        for (int wrong : NO_USERS) {
            Checks.noIndex(Checks::used, "setCuriosity(" + wrong + ", 0)", board -> board.setCuriosity(wrong, 0));
            Checks.noIndex(Checks::used, "setCuriosity(" + wrong + ", 10)", board -> board.setCuriosity(wrong, 10));
        }
        for (int wrong : new int[] {-1, 10, Checks.MIN, Checks.MAX}) {
            Checks.noArgument(Checks::used, "setCuriosity(0, " + wrong + ")", board -> board.setCuriosity(0, wrong));
            Checks.noArgument(Checks::used, "setCuriosity(5, " + wrong + ")", board -> board.setCuriosity(5, wrong));
        }
    }

    private static void promise13Undo() {
        CordBoard board = new CordBoard();
        board.waitFor(5);
        board.call(Checks.ANN, Checks.DOT, false);
        board.call(Checks.BEA, Checks.DOT, false);
        board.end(0);
        Checks.same("undo of end", board.undo(), 3);
        Checks.same("it talks again", board.callState(0), CordBoard.TALKING);
        Checks.same("the other waits again", board.callState(1), CordBoard.WAITING);
        Checks.same("no bill", board.bill(Checks.ANN), 0);
        Checks.same("undo of call", board.undo(), 2);
        Checks.same("undo of call", board.undo(), 1);
        Checks.same("secrets", board.secretsKnown(Checks.DOT), 1 << Checks.DOT);
        Checks.same("undo of waitFor", board.undo(), 0);
        Checks.same("the first state", Checks.show(board), Checks.show(new CordBoard()));
    }

    private static void promise13Refused() {
        Checks.noState(CordBoard::new, "undo of nothing", board -> board.undo());
        Checks.noState(ChangePromisesTest::undone, "undo of an undone change", board -> board.undo());
    }

    private static CordBoard undone() {
        CordBoard board = new CordBoard();
        board.waitFor(5);
        board.save(0);
        board.undo();
        return board;
    }

    private static void promise14Save() {
        CordBoard board = new CordBoard();
        Checks.same("save(0) at first", board.save(0), 0);
        board.waitFor(9);
        Checks.same("save(0)", board.save(0), 9);
        board.waitFor(1);
        Checks.same("save(1)", board.save(1), 10);
        Checks.same("it is no change", board.undoableChanges(), 2);
        Checks.same("at the end of the clock", Checks.late(999999).save(1), 999999);
    }

    /** "overwrites what was saved there" */
    private static void promise14Overwrites() {
        CordBoard board = new CordBoard();
        board.call(Checks.ANN, Checks.DOT, false);
        board.save(0);
        board.save(1);
        board.end(0);
        board.waitFor(3);
        board.save(1);
        Checks.same("slot 0", board.restore(0), 0);
        Checks.same("its call", board.callState(0), CordBoard.TALKING);
        Checks.same("slot 1", board.restore(1), 3);
        Checks.same("its call", board.callState(0), CordBoard.ENDED);
        Checks.load(board, Checks.crowd(15, 6, 9));
        board.save(0);
        Checks.load(board, Checks.SETUP);
        board.restore(0);
        Checks.same("a larger board", Checks.show(board), Checks.show(Checks.loaded(Checks.crowd(15, 6, 9))));
    }

    private static void promise14Refused() {
        for (int wrong : new int[] {-1, 2, 3, Checks.MIN, Checks.MAX}) {
            Checks.noArgument(Checks::used, "save(" + wrong + ")", board -> board.save(wrong));
        }
    }

    private static void promise15Restore() {
        CordBoard board = Checks.used();
        board.save(0);
        board.end(1);
        board.setCuriosity(0, 9);
        Checks.same("restore(0)", board.restore(0), 115);
        Checks.same("the state", Checks.show(board), Checks.show(Checks.used()));
        Checks.same("restore(1)", board.restore(1), 0);
        Checks.same("its calls", board.callCount(), 2);
        board.undo();
        Checks.same("undo of restore", Checks.show(board), Checks.show(Checks.used()));
    }

    /** "The state stays saved." */
    private static void promise15StateStaysSaved() {
        CordBoard board = new CordBoard();
        board.call(Checks.ANN, Checks.DOT, false);
        board.waitFor(30);
        board.save(1);
        for (int round = 0; round < 3; round++) {
            board.end(0);
            board.waitFor(1);
            board.setCuriosity(Checks.ANN, 9);
            Checks.same("restore(1)", board.restore(1), 30);
            Checks.same("its call", board.callState(0), CordBoard.TALKING);
            Checks.same("its bill", board.bill(Checks.ANN), 0);
            Checks.same("its curiosity", board.curiosity(Checks.ANN), 2);
        }
    }

    private static void promise15Refused() {
        for (int wrong : new int[] {-1, 2, 3, Checks.MIN, Checks.MAX}) {
            Checks.noArgument(Checks::used, "restore(" + wrong + ")", board -> board.restore(wrong));
            Checks.noArgument(CordBoard::new, "restore(" + wrong + ")", board -> board.restore(wrong));
        }
        Checks.noState(CordBoard::new, "restore(0)", board -> board.restore(0));
        Checks.noState(CordBoard::new, "restore(1)", board -> board.restore(1));
        Checks.noState(Checks::used, "restore of the other slot", board -> board.restore(0));
    }
}
