/** Promises 29 to 39: what the board tells of subscribers. */
public final class SubscriberPromisesTest {
    private static final int[] WRONG = {-1, 6, 15, Integer.MIN_VALUE, Integer.MAX_VALUE};

    private SubscriberPromisesTest() {
    }

    public static void main(String[] args) {
        promise29LineOf();
        promise30Curiosity();
        promise31Bill();
        promise32RingCount();
        promise33RingSeconds();
        promise34SecretsKnown();
        promise35Neighbours();
        promise36NameByte();
        promise37WhoAnswers();
        promise38Knowers();
        promise39BestInformed();
        wrongSubscribers();
        Checks.end();
    }

    private static void promise29LineOf() {
        CordBoard board = new CordBoard();
        int[] lines = {0, 0, 0, 1, 1, 2};
        for (int subscriber = 0; subscriber < 6; subscriber++) {
            Checks.same("lineOf", board.lineOf(subscriber), lines[subscriber]);
        }
    }

    private static void promise30Curiosity() {
        CordBoard board = new CordBoard();
        int[] curiosities = {2, 7, 5, 0, 9, 6};
        for (int subscriber = 0; subscriber < 6; subscriber++) {
            Checks.same("curiosity", board.curiosity(subscriber), curiosities[subscriber]);
        }
        board.setCuriosity(2, 8);
        Checks.same("curiosity that was set", board.curiosity(2), 8);
    }

    private static void promise31Bill() {
        CordBoard board = new CordBoard();
        board.call(Checks.ANN, Checks.BEA, false);
        Checks.same("bill of a call that goes on", board.bill(Checks.ANN), 0);
        board.end(0);
        board.callTrunk(Checks.ANN, 0, false);
        board.waitFor(130);
        board.end(1);
        Checks.same("bill", board.bill(Checks.ANN), 65);
        Checks.same("bill of another", board.bill(Checks.BEA), 0);
    }

    private static void promise32RingCount() {
        CordBoard board = Checks.loaded("board 2 1;user a 0 s 0;user b 0 ls 0;user c 0 lls 0;user d 0 llls 0;user e 0 lllls 0;user f 1 lllll 0;");
        for (int subscriber = 0; subscriber < 5; subscriber++) {
            Checks.same("ringCount", board.ringCount(subscriber), subscriber + 1);
        }
        Checks.same("ringCount of lllll", board.ringCount(5), 5);
    }

    private static void promise33RingSeconds() {
        CordBoard board = Checks.loaded("board 2 1;user a 0 s 0;user b 0 lsl 0;user c 1 l 0;user d 1 sssss 0;user e 0 lllll 0;");
        int[] seconds = {1, 9, 3, 9, 19};
        for (int subscriber = 0; subscriber < seconds.length; subscriber++) {
            Checks.same("ringSeconds", board.ringSeconds(subscriber), seconds[subscriber]);
        }
    }

    private static void promise34SecretsKnown() {
        CordBoard board = new CordBoard();
        for (int subscriber = 0; subscriber < 6; subscriber++) {
            Checks.same("the own secret", board.secretsKnown(subscriber), 1 << subscriber);
        }
        CordBoard quiet = new CordBoard();
        quiet.call(Checks.EVE, Checks.FAY, false);
        Checks.same("eve and fay", quiet.secretsKnown(Checks.FAY), 1 << Checks.EVE | 1 << Checks.FAY);
        // Both subscribers and the listeners of both lines know all that the two know.
        board.call(Checks.ANN, Checks.DOT, false);
        int told = 1 << Checks.ANN | 1 << Checks.DOT;
        Checks.same("ann", board.secretsKnown(Checks.ANN), told);
        Checks.same("dot", board.secretsKnown(Checks.DOT), told);
        Checks.same("bea", board.secretsKnown(Checks.BEA), told | 1 << Checks.BEA);
        Checks.same("cal", board.secretsKnown(Checks.CAL), told | 1 << Checks.CAL);
        Checks.same("eve", board.secretsKnown(Checks.EVE), told | 1 << Checks.EVE);
        Checks.same("fay", board.secretsKnown(Checks.FAY), 1 << Checks.FAY);
        board.end(0);
        // In a call to a trunk the caller learns nothing, and the listeners learn what the caller knows.
        board.callTrunk(Checks.EVE, 0, false);
        Checks.same("eve after a trunk", board.secretsKnown(Checks.EVE), told | 1 << Checks.EVE);
        Checks.same("dot is not curious", board.secretsKnown(Checks.DOT), told);
        board.callTrunk(Checks.BEA, 0, false);
        Checks.same("a waiting call tells nothing", board.secretsKnown(Checks.CAL), told | 1 << Checks.CAL);
        board.end(1);
        Checks.same("when it starts it does", board.secretsKnown(Checks.CAL), told | 1 << Checks.CAL | 1 << Checks.BEA);
    }

    private static void promise35Neighbours() {
        CordBoard board = new CordBoard();
        int[] neighbours = {2, 2, 2, 1, 1, 0};
        for (int subscriber = 0; subscriber < 6; subscriber++) {
            Checks.same("neighbours", board.neighbours(subscriber), neighbours[subscriber]);
        }
    }

    private static void promise36NameByte() {
        CordBoard board = Checks.loaded("board 1 1;user abcxyz 0 s 0;user q 0 l 0;");
        String name = "abcxyz";
        for (int index = 0; index < 6; index++) {
            Checks.same("nameByte", board.nameByte(0, index), name.charAt(index));
        }
        Checks.same("byte 0 of q", board.nameByte(1, 0), 'q');
        Checks.same("byte 1 of q", board.nameByte(1, 1), CordBoard.NONE);
        for (int index : new int[] {-1, 6, 7, 8, 64, Integer.MIN_VALUE, Integer.MAX_VALUE}) {
            Checks.same("byte " + index, board.nameByte(0, index), CordBoard.NONE);
        }
        Checks.noIndex(board, "nameByte(2, 0)", () -> board.nameByte(2, 0));
        Checks.noIndex(board, "nameByte(-1, -1)", () -> board.nameByte(-1, -1));
    }

    private static void promise37WhoAnswers() {
        CordBoard board = new CordBoard();
        Checks.same("ss on 0", board.whoAnswers(0, 4), Checks.ANN);
        Checks.same("sl on 0", board.whoAnswers(0, 5), Checks.BEA);
        Checks.same("l on 0", board.whoAnswers(0, 3), Checks.CAL);
        Checks.same("s on 1", board.whoAnswers(1, 2), Checks.DOT);
        Checks.same("ll on 1", board.whoAnswers(1, 7), Checks.EVE);
        Checks.same("sls on 2", board.whoAnswers(2, 10), Checks.FAY);
        Checks.same("s on 0", board.whoAnswers(0, 2), CordBoard.NONE);
        Checks.same("ss on 1", board.whoAnswers(1, 4), CordBoard.NONE);
        Checks.same("sss on 0", board.whoAnswers(0, 8), CordBoard.NONE);
        for (int rings : new int[] {0, 1, -1, 64, 1 << 30, Integer.MIN_VALUE, Integer.MAX_VALUE, -4}) {
            Checks.same("rings " + rings, board.whoAnswers(0, rings), CordBoard.NONE);
        }
        for (int line : new int[] {-1, 3, Integer.MIN_VALUE, Integer.MAX_VALUE}) {
            Checks.noIndex(board, "whoAnswers(" + line + ", 4)", () -> board.whoAnswers(line, 4));
        }
    }

    private static void promise38Knowers() {
        CordBoard board = new CordBoard();
        Checks.same("knowers at first", board.knowers(5), 1);
        board.call(Checks.ANN, Checks.DOT, false);
        Checks.same("knowers of ann's secret", board.knowers(Checks.ANN), 5);
        Checks.same("knowers of dot's secret", board.knowers(Checks.DOT), 5);
        Checks.same("knowers of bea's secret", board.knowers(Checks.BEA), 1);
    }

    private static void promise39BestInformed() {
        CordBoard board = new CordBoard();
        Checks.same("a tie of all", board.bestInformed(), 0);
        board.call(Checks.EVE, Checks.FAY, false);
        Checks.same("a tie of two", board.bestInformed(), Checks.EVE);
        board.call(Checks.ANN, Checks.BEA, false);
        Checks.same("the listener knows the most", board.bestInformed(), Checks.CAL);
    }

    private static void wrongSubscribers() {
        CordBoard board = new CordBoard();
        for (int wrong : WRONG) {
            Checks.noIndex(board, "lineOf(" + wrong + ")", () -> board.lineOf(wrong));
            Checks.noIndex(board, "curiosity(" + wrong + ")", () -> board.curiosity(wrong));
            Checks.noIndex(board, "bill(" + wrong + ")", () -> board.bill(wrong));
            Checks.noIndex(board, "ringCount(" + wrong + ")", () -> board.ringCount(wrong));
            Checks.noIndex(board, "ringSeconds(" + wrong + ")", () -> board.ringSeconds(wrong));
            Checks.noIndex(board, "secretsKnown(" + wrong + ")", () -> board.secretsKnown(wrong));
            Checks.noIndex(board, "neighbours(" + wrong + ")", () -> board.neighbours(wrong));
            Checks.noIndex(board, "nameByte(" + wrong + ", 0)", () -> board.nameByte(wrong, 0));
            Checks.noIndex(board, "knowers(" + wrong + ")", () -> board.knowers(wrong));
        }
    }
}
