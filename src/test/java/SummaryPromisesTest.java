/** Promises 55 to 59: sums, means and the output. */
public final class SummaryPromisesTest {
    private SummaryPromisesTest() {
    }

    public static void main(String[] args) {
        promise55Inconsistencies();
        promise56MeanVolumeOfNone();
        promise56MeanVolume();
        promise57GossipShare();
        promise57NoneAndAll();
        promise58WriteNothing();
        promise58WriteCalls();
        promise58TrunkDigits();
        promise58ReplacesThePreviousOutput();
        promise58LongestOutput();
        promise59OutputByte();
        promise59NoSuchByte();
        promise59StaysUntilTheNextWriting();
        Checks.end();
    }

    /** "the sum of these numbers, which is always 0" */
    private static void promise55Inconsistencies() {
        Checks.same("at first", new CordBoard().inconsistencies(), 0);
        CordBoard board = new CordBoard();
        board.call(Checks.ANN, Checks.DOT, false);
        board.callTrunk(Checks.FAY, 0, false);
        board.call(Checks.BEA, Checks.CAL, true);
        Checks.same("with all cords busy", board.inconsistencies(), 0);
        board.waitFor(500);
        board.end(1);
        Checks.same("with a bill", board.inconsistencies(), 0);
        board.waitFor(500);
        Checks.same("later", board.inconsistencies(), 0);
        board.undo();
        board.undo();
        Checks.same("after undo", board.inconsistencies(), 0);
        Checks.load(board, Checks.PAIR + "call a b;wait 9;end 0;call a b;");
        Checks.same("after load", board.inconsistencies(), 0);
        Checks.same("with calls of each state", Checks.used().inconsistencies(), 0);
        Checks.same("with forty calls", Checks.withCalls(40).inconsistencies(), 0);
        Checks.same("at the end of the clock", Checks.late(999999).inconsistencies(), 0);
    }

    /** "0.0 if there is none" */
    private static void promise56MeanVolumeOfNone() {
        Checks.same("without calls", new CordBoard().meanVolume(), 0.0);
        CordBoard board = Checks.used();
        Checks.load(board, Checks.SETUP);
        Checks.same("after load", board.meanVolume(), 0.0);
    }

    private static void promise56MeanVolume() {
        CordBoard board = new CordBoard();
        board.call(Checks.ANN, Checks.DOT, false);
        Checks.same("of one call", board.meanVolume(), 72.0);
        board.call(Checks.ANN, Checks.BEA, false);
        board.call(Checks.BEA, Checks.CAL, false);
        Checks.same("without waiting calls", board.meanVolume(), 72.0);
        board.end(1);
        Checks.same("without cancelled calls", board.meanVolume(), 72.0);
        board.end(0);
        Checks.same("with ended calls", board.meanVolume(), 86.0);
        board.end(2);
        board.call(Checks.ANN, Checks.CAL, false);
        Checks.same("of three", board.meanVolume(), (double) (72 + 100 + 90) / (double) 3);
        board.undo();
        Checks.same("of two again", board.meanVolume(), 86.0);
    }

    /** "converted to float, divided by the square of the number of subscribers, converted to float" */
    private static void promise57GossipShare() {
        CordBoard board = new CordBoard();
        Checks.same("at first", board.gossipShare(), (float) 6 / (float) 36);
        board.call(Checks.ANN, Checks.DOT, false);
        Checks.same("after a call", board.gossipShare(), (float) 14 / (float) 36);
        CordBoard crowd = Checks.played(Checks.crowd(15, 1, 0), "call pa po;");
        Checks.same("of fifteen", crowd.gossipShare(), (float) 17 / (float) 225);
    }

    private static void promise57NoneAndAll() {
        for (int users = 1; users <= 15; users++) {
            CordBoard board = Checks.loaded(Checks.crowd(users, 1, 0));
            Checks.same("just the own secrets", board.gossipShare(), (float) users / (float) (users * users));
        }
        Checks.same("alone", Checks.loaded("board 1 1;user a 0 s 9;").gossipShare(), 1.0f);
        Checks.same("two who know all", Checks.played(Checks.PAIR, "call a b;").gossipShare(), 1.0f);
    }

    private static void promise58WriteNothing() {
        Checks.same("no calls", new CordBoard().writeCalls(), 0);
        CordBoard board = Checks.played(Checks.PAIR, "call a b;call a b;end 1;end 0;");
        Checks.same("only calls that are over", board.writeCalls(), 0);
        Checks.same("nothing is written", board.outputByte(0), CordBoard.NONE);
    }

    /** "a hyphen .. for a talking call or a question mark .. for a waiting one .. a space between two calls" */
    private static void promise58WriteCalls() {
        CordBoard board = new CordBoard();
        board.call(Checks.ANN, Checks.DOT, false);
        Checks.same("a single call", Checks.written(board), "ann-dot");
        board.call(Checks.BEA, Checks.CAL, true);
        board.callTrunk(Checks.FAY, 0, false);
        board.callTrunk(Checks.EVE, 0, false);
        Checks.same("the length", board.writeCalls(), 27);
        Checks.same("all calls", Checks.written(board), "ann-dot bea?cal fay-0 eve?0");
        board.end(0);
        Checks.same("without an ended call", Checks.written(board), "bea-cal fay-0 eve?0");
        board.end(3);
        Checks.same("without a cancelled call", Checks.written(board), "bea-cal fay-0");
        Checks.same("it is no change", board.undoableChanges(), 6);
    }

    private static void promise58TrunkDigits() {
        CordBoard board = Checks.loaded("board 4 6;trunk 1;trunk 1;trunk 1;trunk 1;user a 0 s 0;user bbbbbb 1 s 0;");
        board.callTrunk(0, 3, false);
        board.call(1, 0, false);
        board.callTrunk(1, 2, false);
        board.callTrunk(0, 1, true);
        board.callTrunk(0, 0, true);
        Checks.same("trunk digits", Checks.written(board), "a-3 bbbbbb?a bbbbbb-2 a?1 a?0");
    }

    /** "replaces the previous output" */
    private static void promise58ReplacesThePreviousOutput() {
        CordBoard board = Checks.played(Checks.SETUP, "call ann dot;call bea cal;");
        Checks.same("the first output", Checks.written(board), "ann-dot bea?cal");
        board.end(0);
        Checks.same("a shorter one", board.writeCalls(), 7);
        Checks.same("its end", board.outputByte(7), CordBoard.NONE);
        Checks.same("its bytes", Checks.outputOf(board, 0, 20), "bea-cal");
        board.end(1);
        Checks.same("an empty one", board.writeCalls(), 0);
        Checks.same("no byte", board.outputByte(0), CordBoard.NONE);
    }

    private static CordBoard longest() {
        CordBoard board = Checks.loaded("board 1 1;user abcdef 0 s 0;user ghijkl 0 l 0;");
        for (int number = 0; number < 40; number++) {
            board.call(0, 1, false);
        }
        Checks.same("the longest output", board.writeCalls(), 559);
        return board;
    }

    /** Forty calls between names of six letters; it takes two objects to read what is written. */
    private static void promise58LongestOutput() {
        String due = "abcdef-ghijkl" + Checks.repeat(" abcdef?ghijkl", 39);
        Checks.same("the first half", Checks.outputOf(longest(), 0, 300), due.substring(0, 300));
        Checks.same("the second half", Checks.outputOf(longest(), 300, 700), due.substring(300));
    }

    private static void promise59OutputByte() {
        CordBoard board = Checks.played(Checks.SETUP, "call ann dot;");
        Checks.same("before it is written", board.outputByte(0), CordBoard.NONE);
        board.writeCalls();
        String due = "ann-dot";
        for (int index = 0; index < due.length(); index++) {
            Checks.same("outputByte(" + index + ")", board.outputByte(index), due.charAt(index));
        }
        CordBoard full = longest();
        Checks.same("the last byte of the longest output", full.outputByte(558), 'l');
        Checks.same("the byte behind it", full.outputByte(559), CordBoard.NONE);
        Checks.same("the next", full.outputByte(560), CordBoard.NONE);
    }

    /** "NONE if there is no such byte" */
    private static void promise59NoSuchByte() {
        CordBoard board = Checks.used();
        Checks.same("the length", board.writeCalls(), 11);
        for (int wrong : new int[] {-1, 11, 12, 559, 560, 561, 700, Checks.MIN, Checks.MAX}) {
            Checks.same("outputByte(" + wrong + ")", board.outputByte(wrong), CordBoard.NONE);
            Checks.same("of a new object", new CordBoard().outputByte(wrong), CordBoard.NONE);
        }
    }

    private static void promise59StaysUntilTheNextWriting() {
        CordBoard board = Checks.played(Checks.SETUP, "call ann dot;");
        board.writeCalls();
        board.end(0);
        board.undo();
        board.undo();
        Checks.load(board, "board 1 1;user x 0 s 0;");
        Checks.same("it stays", Checks.outputOf(board, 0, 20), "ann-dot");
        board.writeCalls();
        Checks.same("until the next writing", board.outputByte(0), CordBoard.NONE);
    }
}
