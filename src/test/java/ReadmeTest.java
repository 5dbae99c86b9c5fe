/** The lines of code in README.md, with the answers that it tells behind them. */
final class ReadmeTest {
    public static void main(String[] args) {
        callsAreMade();
        textsAreRead();
        Checks.end();
    }

    private static void callsAreMade() {
        CordBoard board = new CordBoard();
        int number = board.call(0, 3, false);
        Checks.same("call", number, 0);
        Checks.same("callState", board.callState(number), CordBoard.TALKING);
        Checks.same("volume", board.volume(number), 72);
        Checks.same("listeners", board.listeners(number), 1 << 1 | 1 << 2 | 1 << 4);
        Checks.same("call", board.call(1, 2, true), 1);
        Checks.same("callState", board.callState(1), CordBoard.WAITING);
        Checks.same("obstacle", board.obstacle(1), 1);
        Checks.same("waitFor", board.waitFor(61), 61);
        Checks.same("end", board.end(number), 1);
        Checks.same("bill", board.bill(0), 5);
        Checks.same("undo", board.undo(), 3);
        Checks.same("callState", board.callState(number), CordBoard.TALKING);
    }

    private static void textsAreRead() {
        CordBoard board = new CordBoard();
        type(board, "board 2 1; trunk 30; user tom 0 sl 3; user liz 1 l 8; call tom liz;");
        Checks.same("load", board.load(), 2);
        type(board, "wait 5; trunk tom 0 urgent; mood liz 2;");
        Checks.same("play", board.play(), 3);
        Checks.same("writeCalls", board.writeCalls(), 13);
        Checks.same("outputByte", board.outputByte(3), 45);
        Checks.same("the output", Checks.written(board), "tom-liz tom?0");
        type(board, "wait 5; call tom sue;");
        Checks.same("play", board.play(), CordBoard.NONE);
        Checks.same("errorCode", board.errorCode(), 3);
        Checks.same("errorOffset", board.errorOffset(), 17);
        Checks.same("clock", board.clock(), 5);
    }

    private static void type(CordBoard board, String text) {
        for (int start = 0; start < text.length(); start += 20) {
            int[] four = new int[5];
            for (int index = 0; index < 20; index++) {
                int letter = start + index < text.length() ? text.charAt(start + index) : ' ';
                four[index / 4] = four[index / 4] << 8 | letter;
            }
            board.append(four[0], four[1], four[2], four[3], four[4]);
        }
        board.truncateInput(text.length());
    }
}
