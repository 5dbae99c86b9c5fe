/** The part 6 of the terms, sentence by sentence: changes, undo and exceptions. */
public final class TermsUndoTest {
    private static final int CHANGES = 8;

    private TermsUndoTest() {
    }

    public static void main(String[] args) {
        eachKindOfChangeCounts();
        changesWithoutEffectCount();
        otherCallsAreNoChanges();
        refusedCallsAreNoChanges();
        eightChangesCanBeUndone();
        ninthChangeDiscardsTheOldest();
        undoGoesOnBehindEachWrapAround();
        undoneChangesCannotBeRedone();
        undoBringsBackTheWholeState();
        restoreBringsBackTheWholeState();
        undoLeavesTheInput();
        undoLeavesTheReportedError();
        undoLeavesTheOutput();
        undoLeavesTheSavedStates();
        restoreLeavesTheRest();
        loadKeepsTheSavedStates();
        firstExceptionIsThrown();
        nothingIsLeftOfWhatWasUndone();
        Checks.end();
    }

    /** "Successful calls of load(), play(), call(), callTrunk(), end(), waitFor(), setCuriosity() and restore()" */
    private static void eachKindOfChangeCounts() {
        CordBoard board = new CordBoard();
        board.save(0);
        Checks.same("none yet", board.undoableChanges(), 0);
        Checks.load(board, Checks.SETUP);
        Checks.same("load", board.undoableChanges(), 1);
        Checks.play(board, "wait 5;wait 6;mood ann 3;");
        Checks.same("play", board.undoableChanges(), 2);
        board.call(Checks.ANN, Checks.DOT, false);
        Checks.same("call", board.undoableChanges(), 3);
        board.callTrunk(Checks.FAY, 0, false);
        Checks.same("callTrunk", board.undoableChanges(), 4);
        board.end(1);
        Checks.same("end", board.undoableChanges(), 5);
        board.waitFor(1);
        Checks.same("waitFor", board.undoableChanges(), 6);
        board.setCuriosity(Checks.EVE, 1);
        Checks.same("setCuriosity", board.undoableChanges(), 7);
        board.restore(0);
        Checks.same("restore", board.undoableChanges(), 8);
        Checks.same("undo of restore", board.undo(), 7);
        Checks.same("curiosity", board.curiosity(Checks.EVE), 1);
        Checks.same("undo of setCuriosity", board.undo(), 6);
        Checks.same("curiosity", board.curiosity(Checks.EVE), 9);
        Checks.same("undo of waitFor", board.undo(), 5);
        Checks.same("clock", board.clock(), 11);
        Checks.same("undo of end", board.undo(), 4);
        Checks.same("state", board.callState(1), CordBoard.TALKING);
        Checks.same("undo of callTrunk", board.undo(), 3);
        Checks.same("calls", board.callCount(), 1);
        Checks.same("undo of call", board.undo(), 2);
        Checks.same("calls", board.callCount(), 0);
        Checks.same("undo of play", board.undo(), 1);
        Checks.same("clock", board.clock(), 0);
        Checks.same("undo of load", board.undo(), 0);
    }

    /** "are changes, even if they have no effect" */
    private static void changesWithoutEffectCount() {
        CordBoard board = new CordBoard();
        board.save(0);
        board.setCuriosity(Checks.ANN, 2);
        Checks.same("the same curiosity", board.undoableChanges(), 1);
        board.play();
        Checks.same("an empty script", board.undoableChanges(), 2);
        Checks.load(board, Checks.SETUP);
        Checks.same("the same setup", board.undoableChanges(), 3);
        board.restore(0);
        Checks.same("the same state", board.undoableChanges(), 4);
        Checks.same("all had no effect", Checks.show(board), Checks.show(new CordBoard()));
        Checks.same("undo", board.undo(), 3);
    }

    /** All calls that are not listed as changes. */
    private static void otherCallsAreNoChanges() {
        Checks.onlyAsks(Checks::used, "the board", board -> board.clock() + board.lineCount() + board.cordCount()
                + board.freeCords() + board.trunkCount() + board.subscriberCount() + board.callCount()
                + board.waitingCalls() + board.talkingCalls() + board.undoableChanges() + board.toll(0)
                + (board.isLineBusy(0) || board.isTrunkBusy(0) ? 1 : 0));
        Checks.onlyAsks(Checks::used, "subscribers", board -> board.lineOf(1) + board.curiosity(1) + board.bill(1)
                + board.ringCount(1) + board.ringSeconds(1) + board.secretsKnown(1) + board.neighbours(1)
                + board.nameByte(1, 1) + board.whoAnswers(0, 4) + board.knowers(1) + board.bestInformed());
        Checks.onlyAsks(Checks::used, "calls", board -> board.callState(3) + board.callerOf(3)
                + board.calledSubscriber(3) + board.calledTrunk(3) + board.startTime(3) + board.endTime(3)
                + board.listeners(3) + board.volume(3) + board.charge(3) + board.obstacle(3) + board.queuePlace(3)
                + (board.isUrgent(3) ? 1 : 0));
        Checks.onlyAsks(Checks::used, "forecasts", board -> board.listenersBetween(0, 4) + board.startsIfEnded(1)
                + board.startsIfEnded(3) + board.startsIfEnded(0) + board.quietestCall(0));
        Checks.onlyAsks(Checks::used, "sums", board -> board.inconsistencies() + board.meanVolume()
                + board.gossipShare() + board.outputByte(0) + board.errorCode() + board.errorOffset());
        CordBoard board = Checks.used();
        int changes = board.undoableChanges();
        board.append(0, 0, 0, 0, 0);
        board.truncateInput(3);
        board.truncateInput(0);
        board.save(0);
        board.save(1);
        board.writeCalls();
        Checks.same("changes", board.undoableChanges(), changes);
    }

    /** "Successful calls .." and "A method that throws an exception changes nothing." */
    private static void refusedCallsAreNoChanges() {
        Checks.noIndex(Checks::used, "call", board -> board.call(0, 6, false));
        Checks.noArgument(Checks::used, "call", board -> board.call(0, 0, false));
        Checks.noIndex(Checks::used, "callTrunk", board -> board.callTrunk(0, 1, false));
        Checks.noState(Checks::used, "end", board -> board.end(0));
        Checks.noArgument(Checks::used, "waitFor", board -> board.waitFor(0));
        Checks.noArgument(Checks::used, "setCuriosity", board -> board.setCuriosity(0, 10));
        Checks.noState(Checks::used, "restore", board -> board.restore(0));
        Checks.noArgument(Checks::used, "save", board -> board.save(2));
        Checks.noState(CordBoard::new, "undo", board -> board.undo());
        Checks.loadFails("board 1 1;", 1, 10);
        Checks.playFails(Checks::used, "wait 5;end 9;", 2, 11);
    }

    private static CordBoard waited(int changes) {
        CordBoard board = new CordBoard();
        for (int count = 1; count <= changes; count++) {
            board.waitFor(count);
        }
        return board;
    }

    private static int sumTo(int changes) {
        return changes * (changes + 1) / 2;
    }

    /** "The latest 8 changes can be undone, the latest first." */
    private static void eightChangesCanBeUndone() {
        for (int changes = 0; changes <= CHANGES; changes++) {
            CordBoard board = waited(changes);
            Checks.same("changes", board.undoableChanges(), changes);
            for (int left = changes - 1; left >= 0; left--) {
                Checks.same("undo", board.undo(), left);
                Checks.same("the clock", board.clock(), sumTo(left));
            }
            int made = changes;
            Checks.noState(() -> undone(made, made), "one undo more than changes", more -> more.undo());
        }
    }

    private static CordBoard undone(int changes, int undos) {
        CordBoard board = waited(changes);
        for (int count = 0; count < undos; count++) {
            board.undo();
        }
        return board;
    }

    /** "A ninth change discards the oldest one." */
    private static void ninthChangeDiscardsTheOldest() {
        for (int changes : new int[] {9, 10, 15, 16, 17, 24, 25}) {
            CordBoard board = waited(changes);
            Checks.same("changes", board.undoableChanges(), CHANGES);
            for (int left = CHANGES - 1; left >= 0; left--) {
                Checks.same("undo", board.undo(), left);
                Checks.same("the clock", board.clock(), sumTo(changes - CHANGES + left));
            }
            Checks.noState(() -> undone(changes, CHANGES), "a ninth undo", more -> more.undo());
        }
    }

    /** Undo and change by turns, so that the oldest change stands at each place that there may be. */
    private static void undoGoesOnBehindEachWrapAround() {
        CordBoard board = new CordBoard();
        int[] clocks = new int[400];
        int depth = 0;
        int undoable = 0;
        for (int round = 0; round < 11; round++) {
            for (int count = 0; count < 3 + round; count++) {
                clocks[depth + 1] = board.waitFor(1 + round);
                Checks.same("the clock", clocks[depth + 1], clocks[depth] + 1 + round);
                depth++;
                undoable = Math.min(CHANGES, undoable + 1);
                Checks.same("changes", board.undoableChanges(), undoable);
            }
            for (int count = 0; count < round % 9 && undoable > 0; count++) {
                depth--;
                undoable--;
                Checks.same("undo", board.undo(), undoable);
                Checks.same("the clock", board.clock(), clocks[depth]);
            }
        }
    }

    /** "An undone change cannot be redone." */
    private static void undoneChangesCannotBeRedone() {
        CordBoard board = waited(3);
        board.undo();
        board.waitFor(100);
        Checks.same("changes", board.undoableChanges(), 3);
        board.undo();
        Checks.same("the clock", board.clock(), 3);
        board.undo();
        Checks.same("undo of an earlier change, not of the undo", board.clock(), 1);
        board.undo();
        Checks.same("the first clock", board.clock(), 0);
        Checks.noState(() -> undone(3, 3), "undo of an undo", more -> more.undo());
    }

    /** "Undo and restore bring back the lines, the subscribers, the calls and the clock." */
    private static void undoBringsBackTheWholeState() {
        Checks.Use[] changes = {board -> board.call(1, 4, true), board -> board.callTrunk(5, 0, true),
            board -> board.end(1), board -> board.end(3), board -> board.waitFor(60),
            board -> board.setCuriosity(2, 9), board -> board.restore(1),
            board -> Checks.play(board, "end 1;call ann bea urgent;wait 5;mood fay 1;trunk dot 0;"),
            board -> Checks.load(board, "board 6 1;trunk 1;trunk 2;user x 5 lsl 1;user ann 0 ss 5;call x ann;wait 7;"),
            board -> Checks.load(board, Checks.crowd(15, 1, 9))};
        for (int index = 0; index < changes.length; index++) {
            CordBoard board = Checks.used();
            changes[index].run(board);
            board.undo();
            Checks.same("the state before change " + index, Checks.show(board), Checks.show(Checks.used()));
        }
    }

    private static void restoreBringsBackTheWholeState() {
        String[] texts = {"end 1;call ann bea urgent;wait 5;mood fay 1;trunk dot 0;", "", "end 3;end 1;"};
        for (String text : texts) {
            CordBoard board = Checks.used();
            board.save(0);
            Checks.play(board, text);
            board.restore(0);
            Checks.same("the state before " + text, Checks.show(board), Checks.show(Checks.used()));
            Checks.load(board, "board 6 1;trunk 1;trunk 2;user x 5 lsl 1;user ann 0 ss 5;call x ann;wait 7;");
            board.restore(0);
            Checks.same("the state before load", Checks.show(board), Checks.show(Checks.used()));
        }
    }

    /** "They do not affect the input buffer" */
    private static void undoLeavesTheInput() {
        CordBoard board = new CordBoard();
        board.waitFor(5);
        Checks.type(board, "wait 7;call ann ann;");
        board.undo();
        Checks.same("the length", Checks.inputLength(board), 20);
        board.truncateInput(7);
        Checks.same("play", board.play(), 1);
        Checks.same("the clock", board.clock(), 7);
        board.undo();
        Checks.same("what was played does not come back", Checks.inputLength(board), 0);
    }

    /** "the reported error" */
    private static void undoLeavesTheReportedError() {
        CordBoard board = new CordBoard();
        board.waitFor(5);
        Checks.load(board, "board 0 1;");
        board.undo();
        Checks.same("the code", board.errorCode(), 2);
        Checks.same("the offset", board.errorOffset(), 6);
        Checks.play(board, "wait 5;");
        board.undo();
        Checks.same("no code after undo of play", board.errorCode(), 0);
        Checks.same("nor offset", board.errorOffset(), CordBoard.NONE);
    }

    /** "the output" */
    private static void undoLeavesTheOutput() {
        CordBoard board = new CordBoard();
        board.call(Checks.ANN, Checks.DOT, false);
        board.writeCalls();
        board.undo();
        Checks.same("the output", Checks.outputOf(board, 0, 20), "ann-dot");
        Checks.same("written again", board.writeCalls(), 0);
        board.call(Checks.FAY, Checks.DOT, false);
        board.undo();
        Checks.same("no output comes back", board.outputByte(0), CordBoard.NONE);
    }

    /** "or the saved states" */
    private static void undoLeavesTheSavedStates() {
        CordBoard board = new CordBoard();
        board.waitFor(5);
        board.save(0);
        board.waitFor(6);
        board.save(1);
        board.undo();
        board.undo();
        Checks.same("slot 0", board.restore(0), 5);
        Checks.same("slot 1", board.restore(1), 11);
        board.waitFor(1);
        board.save(1);
        board.undo();
        Checks.same("slot 1 is not taken back", board.restore(1), 12);
    }

    private static void restoreLeavesTheRest() {
        CordBoard board = new CordBoard();
        board.waitFor(3);
        board.save(0);
        board.call(Checks.ANN, Checks.DOT, false);
        board.save(1);
        board.writeCalls();
        Checks.load(board, "board 0 1;");
        Checks.type(board, "wait 7;");
        board.restore(0);
        Checks.same("the code", board.errorCode(), 2);
        Checks.same("the offset", board.errorOffset(), 6);
        Checks.same("the output", Checks.outputOf(board, 0, 20), "ann-dot");
        Checks.same("play of the input", board.play(), 1);
        Checks.same("the clock", board.clock(), 10);
        board.restore(1);
        Checks.same("slot 1", board.callCount(), 1);
        board.restore(0);
        Checks.same("slot 0 has no call", board.callCount(), 0);
        Checks.same("and its clock", board.clock(), 3);
    }

    /** "load() keeps the saved states." */
    private static void loadKeepsTheSavedStates() {
        CordBoard board = Checks.used();
        board.save(0);
        Checks.load(board, "board 1 1;user x 0 s 1;");
        Checks.same("slot 0", board.restore(0), 115);
        Checks.same("the state", Checks.show(board), Checks.show(Checks.used()));
        Checks.load(board, "board 1 1;user x 0 s 1;call x x;");
        Checks.same("slot 1", board.restore(1), 0);
        Checks.same("its calls", board.talkingCalls(), 1);
    }

    /** "If several exceptions apply, the one that is listed first is thrown." */
    private static void firstExceptionIsThrown() {
        Checks.noIndex(() -> Checks.withCalls(40), "nobody calls nobody", board -> board.call(2, 2, false));
        Checks.noIndex(() -> Checks.withCalls(40), "nobody calls", board -> board.call(-1, 0, false));
        Checks.noIndex(() -> Checks.withCalls(40), "nobody is called", board -> board.call(0, 2, false));
        Checks.noArgument(() -> Checks.withCalls(40), "a calls a", board -> board.call(0, 0, false));
        Checks.noIndex(() -> Checks.withCalls(40), "no trunk", board -> board.callTrunk(0, 1, false));
        Checks.noIndex(() -> Checks.withCalls(40), "nobody calls a trunk", board -> board.callTrunk(2, 0, false));
        Checks.noArgument(() -> Checks.late(999999), "waitFor", board -> board.waitFor(10000));
        Checks.noArgument(() -> Checks.late(999999), "waitFor", board -> board.waitFor(Checks.MAX));
        Checks.noArgument(() -> Checks.late(999999), "waitFor", board -> board.waitFor(0));
        Checks.noIndex(CordBoard::new, "setCuriosity", board -> board.setCuriosity(6, 10));
        Checks.noArgument(CordBoard::new, "restore", board -> board.restore(2));
        Checks.noArgument(CordBoard::new, "restore", board -> board.restore(-1));
        Checks.noIndex(CordBoard::new, "listenersBetween", board -> board.listenersBetween(6, 6));
    }

    /** A call that takes the number of one that was undone has nothing of it. */
    private static void nothingIsLeftOfWhatWasUndone() {
        CordBoard board = Checks.played(Checks.SETUP, "call ann dot;trunk fay 0 urgent;wait 5;end 1;");
        board.undo();
        board.call(Checks.CAL, Checks.ANN, false);
        board.call(Checks.BEA, Checks.ANN, false);
        Checks.same("its state", board.callState(1), CordBoard.WAITING);
        Checks.same("its start", board.startTime(1), CordBoard.NONE);
        Checks.same("its end", board.endTime(1), CordBoard.NONE);
        Checks.same("its trunk", board.calledTrunk(1), CordBoard.NONE);
        Checks.same("its listeners", board.listeners(1), 0);
        Checks.same("its volume", board.volume(1), 100);
        Checks.same("its charge", board.charge(1), 0);
        Checks.yes("it is not urgent", !board.isUrgent(1));
        Checks.same("no bill", board.bill(Checks.FAY), 0);
    }
}
