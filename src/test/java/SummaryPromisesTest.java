/** Promises 55 to 59: sums, means and the output. */
public final class SummaryPromisesTest {
    private SummaryPromisesTest() {
    }

    public static void main(String[] args) {
        promise55Inconsistencies();
        promise56MeanVolume();
        promise57GossipShare();
        promise58WriteCalls();
        promise59OutputByte();
        Checks.end();
    }

    private static void promise55Inconsistencies() {
        CordBoard board = new CordBoard();
        Checks.same("at first", board.inconsistencies(), 0);
        board.call(0, 3, false);
        board.callTrunk(5, 0, false);
        board.call(1, 2, true);
        Checks.same("with calls", board.inconsistencies(), 0);
        board.waitFor(500);
        board.end(1);
        Checks.same("with a bill", board.inconsistencies(), 0);
        board.end(0);
        board.end(2);
        board.waitFor(500);
        Checks.same("after all", board.inconsistencies(), 0);
    }

    private static void promise56MeanVolume() {
        CordBoard board = new CordBoard();
        Checks.same("without calls", board.meanVolume(), 0.0);
        board.call(Checks.ANN, Checks.DOT, false);
        Checks.same("of one call", board.meanVolume(), 72.0);
        board.call(Checks.ANN, Checks.BEA, false);
        board.call(Checks.BEA, Checks.CAL, false);
        Checks.same("without waiting calls", board.meanVolume(), 72.0);
        board.end(1);
        Checks.same("without cancelled calls", board.meanVolume(), 72.0);
        board.end(0);
        Checks.same("with ended calls", board.meanVolume(), 86.0);
        board.end(2);
        board.call(Checks.ANN, Checks.CAL, false);
        Checks.same("of three", board.meanVolume(), (double) (72 + 100 + 90) / (double) 3);
    }

    private static void promise57GossipShare() {
        CordBoard board = new CordBoard();
        Checks.same("at first", board.gossipShare(), (float) 6 / (float) 36);
        board.call(Checks.ANN, Checks.DOT, false);
        Checks.same("after a call", board.gossipShare(), (float) 14 / (float) 36);
        Checks.same("alone", Checks.loaded("board 1 1;user a 0 s 9;").gossipShare(), 1.0f);
    }

    private static void promise58WriteCalls() {
        CordBoard board = new CordBoard();
        Checks.same("no calls", board.writeCalls(), 0);
        board.call(Checks.ANN, Checks.DOT, false);
        board.call(Checks.BEA, Checks.CAL, true);
        board.callTrunk(Checks.FAY, 0, false);
        board.callTrunk(Checks.EVE, 0, false);
        Checks.same("the length", board.writeCalls(), 27);
        Checks.same("all calls", Checks.written(board), "ann-dot bea?cal fay-0 eve?0");
        board.end(0);
        Checks.same("without an ended call", Checks.written(board), "bea-cal fay-0 eve?0");
        board.end(3);
        Checks.same("without a cancelled call", Checks.written(board), "bea-cal fay-0");
        board.end(1);
        board.end(2);
        Checks.same("shorter again", board.writeCalls(), 0);
        Checks.same("the previous output is gone", board.outputByte(0), CordBoard.NONE);
        CordBoard trunks = Checks.loaded("board 4 6;trunk 1;trunk 1;trunk 1;trunk 1;user a 0 s 0;user bbbbbb 1 s 0;");
        trunks.callTrunk(0, 3, false);
        trunks.call(1, 0, false);
        trunks.callTrunk(1, 2, false);
        Checks.same("trunk digits", Checks.written(trunks), "a-3 bbbbbb?a bbbbbb-2");
        CordBoard many = Checks.loaded("board 1 1;user abcdef 0 s 0;user ghijkl 0 l 0;");
        StringBuilder due = new StringBuilder();
        for (int number = 0; number < 40; number++) {
            many.call(0, 1, false);
            due.append(number == 0 ? "abcdef-ghijkl" : " abcdef?ghijkl");
        }
        Checks.same("the longest output", Checks.written(many), due.toString());
        Checks.same("its length", many.writeCalls(), 559);
    }

    private static void promise59OutputByte() {
        CordBoard board = new CordBoard();
        Checks.same("at first", board.outputByte(0), CordBoard.NONE);
        board.call(Checks.ANN, Checks.DOT, false);
        Checks.same("before it is written", board.outputByte(0), CordBoard.NONE);
        board.writeCalls();
        String due = "ann-dot";
        for (int index = 0; index < due.length(); index++) {
            Checks.same("outputByte(" + index + ")", board.outputByte(index), due.charAt(index));
        }
        for (int wrong : new int[] {-1, 7, 559, 560, 600, Integer.MIN_VALUE, Integer.MAX_VALUE}) {
            Checks.same("outputByte(" + wrong + ")", board.outputByte(wrong), CordBoard.NONE);
        }
        board.end(0);
        board.undo();
        board.undo();
        Checks.load(board, "board 1 1;user x 0 s 0;");
        Checks.same("it stays until the next writing", board.outputByte(3), '-');
    }
}
