/** Promises 29 to 39: what the board tells of subscribers. */
public final class SubscriberPromisesTest {
    private SubscriberPromisesTest() {
    }

    public static void main(String[] args) {
        promise29LineOf();
        promise30Curiosity();
        promise31Bill();
        promise32RingCount();
        promise33RingSeconds();
        promise34SecretsKnown();
        promise34AllSecrets();
        promise35Neighbours();
        promise36NameByte();
        promise36NoSuchByte();
        promise37WhoAnswers();
        promise37AnyRings();
        promise37Refused();
        promise38Knowers();
        promise39BestInformed();
        promises29To38Refused();
        Checks.end();
    }

    private static CordBoard alone() {
        return Checks.loaded("board 1 1;user a 0 s 9;");
    }

    private static CordBoard crowd() {
        return Checks.loaded(Checks.crowd(15, 1, 0));
    }

    private static void promise29LineOf() {
        CordBoard board = new CordBoard();
        int[] lines = {0, 0, 0, 1, 1, 2};
        for (int user = 0; user < 6; user++) {
            Checks.same("lineOf", board.lineOf(user), lines[user]);
        }
        CordBoard wide = Checks.loaded(Checks.crowd(15, 6, 0));
        for (int user = 0; user < 15; user++) {
            Checks.same("lineOf", wide.lineOf(user), user % 6);
        }
    }

    private static void promise30Curiosity() {
        CordBoard board = new CordBoard();
        int[] curiosities = {2, 7, 5, 0, 9, 6};
        for (int user = 0; user < 6; user++) {
            Checks.same("curiosity", board.curiosity(user), curiosities[user]);
        }
        board.setCuriosity(2, 8);
        Checks.same("curiosity that was set", board.curiosity(2), 8);
        Checks.play(board, "mood fay 0;");
        Checks.same("curiosity by a mood", board.curiosity(5), 0);
    }

    private static void promise31Bill() {
        CordBoard board = new CordBoard();
        board.call(Checks.ANN, Checks.BEA, false);
        Checks.same("a call that goes on", board.bill(Checks.ANN), 0);
        board.end(0);
        board.callTrunk(Checks.ANN, 0, false);
        board.waitFor(130);
        board.end(1);
        Checks.same("bill", board.bill(Checks.ANN), 65);
        Checks.same("bill of another", board.bill(Checks.BEA), 0);
        CordBoard last = Checks.played(Checks.crowd(15, 1, 0), "call po pa;end 0;");
        Checks.same("bill of the last", last.bill(14), 5);
    }

    private static void promise32RingCount() {
        CordBoard board = Checks.loaded("board 2 1;user a 0 s 0;user b 0 ls 0;user c 0 lls 0;user d 0 llls 0;"
                + "user e 0 lllls 0;user f 1 lllll 0;user g 1 sssss 0;");
        for (int user = 0; user < 5; user++) {
            Checks.same("ringCount", board.ringCount(user), user + 1);
        }
        Checks.same("ringCount of lllll", board.ringCount(5), 5);
        Checks.same("ringCount of sssss", board.ringCount(6), 5);
    }

    /** "the time that the code of a subscriber takes, with the pauses" */
    private static void promise33RingSeconds() {
        CordBoard board = Checks.loaded("board 2 1;user a 0 s 0;user b 0 lsl 0;user c 1 l 0;user d 1 sssss 0;"
                + "user e 0 lllll 0;user f 1 sl 0;");
        int[] seconds = {1, 9, 3, 9, 19, 5};
        for (int user = 0; user < seconds.length; user++) {
            Checks.same("ringSeconds", board.ringSeconds(user), seconds[user]);
        }
    }

    private static void promise34SecretsKnown() {
        CordBoard board = Checks.played(Checks.SETUP, "call ann dot;");
        int told = 1 << Checks.ANN | 1 << Checks.DOT;
        int[] known = {told, told | 2, told | 4, told, told | 16, 32};
        for (int user = 0; user < 6; user++) {
            Checks.same("secrets", board.secretsKnown(user), known[user]);
        }
    }

    private static void promise34AllSecrets() {
        CordBoard board = crowd();
        Checks.same("the first secret", board.secretsKnown(0), 1);
        Checks.same("the last secret", board.secretsKnown(14), 1 << 14);
        for (int user = 1; user < 15; user++) {
            board.call(0, user, false);
            board.end(user - 1);
        }
        Checks.same("all secrets", board.secretsKnown(0), (1 << 15) - 1);
        Checks.same("what was told then", board.secretsKnown(1), 3);
    }

    private static void promise35Neighbours() {
        CordBoard board = new CordBoard();
        int[] neighbours = {2, 2, 2, 1, 1, 0};
        for (int user = 0; user < 6; user++) {
            Checks.same("neighbours", board.neighbours(user), neighbours[user]);
        }
        Checks.same("no other on the board", alone().neighbours(0), 0);
        Checks.same("all others", crowd().neighbours(14), 14);
    }

    private static CordBoard names() {
        return Checks.loaded("board 1 1;user abcxyz 0 s 0;user q 0 l 0;");
    }

    private static void promise36NameByte() {
        CordBoard board = names();
        String name = "abcxyz";
        for (int index = 0; index < 6; index++) {
            Checks.same("nameByte", board.nameByte(0, index), name.charAt(index));
        }
        Checks.same("byte 0 of q", board.nameByte(1, 0), 'q');
    }

    /** "NONE if there is no such byte" */
    private static void promise36NoSuchByte() {
        CordBoard board = names();
        for (int index : new int[] {-1, -8, 6, 7, 8, 9, 32, 64, 1 << 29, Checks.MIN, Checks.MAX}) {
            Checks.same("byte " + index + " of abcxyz", board.nameByte(0, index), CordBoard.NONE);
        }
        for (int index : new int[] {-1, 1, 2, 5, 6, 8, 64, Checks.MIN, Checks.MAX}) {
            Checks.same("byte " + index + " of q", board.nameByte(1, index), CordBoard.NONE);
        }
        Checks.noIndex(SubscriberPromisesTest::names, "nameByte(2, 0)", made -> made.nameByte(2, 0));
        Checks.noIndex(SubscriberPromisesTest::names, "nameByte(-1, -1)", made -> made.nameByte(-1, -1));
    }

    private static void promise37WhoAnswers() {
        CordBoard board = new CordBoard();
        Checks.same("ss on 0", board.whoAnswers(0, 4), Checks.ANN);
        Checks.same("sl on 0", board.whoAnswers(0, 5), Checks.BEA);
        Checks.same("l on 0", board.whoAnswers(0, 3), Checks.CAL);
        Checks.same("s on 1", board.whoAnswers(1, 2), Checks.DOT);
        Checks.same("ll on 1", board.whoAnswers(1, 7), Checks.EVE);
        Checks.same("sls on 2", board.whoAnswers(2, 10), Checks.FAY);
        for (int number = 2; number < 64; number++) {
            CordBoard one = Checks.loaded("board 2 1;user a 1 " + Checks.ringsOf(number) + " 0;");
            for (int rings = 0; rings < 130; rings++) {
                Checks.same("rings " + rings, one.whoAnswers(1, rings), rings == number ? 0 : CordBoard.NONE);
            }
            Checks.same("the other line", one.whoAnswers(0, number), CordBoard.NONE);
        }
    }

    /** "the rings, any int"; "NONE if there is none with just these rings" */
    private static void promise37AnyRings() {
        CordBoard board = new CordBoard();
        int[] none = {0, 1, 2, 6, 7, 8, 9, 10, 11, 63, 64, 68, 1 << 30, 1 << 30 | 4, Checks.MAX, Checks.MIN,
            Checks.MIN | 4, -1, -3, -4, -5};
        for (int rings : none) {
            Checks.same("rings " + rings, board.whoAnswers(0, rings), CordBoard.NONE);
        }
    }

    private static void promise37Refused() {
        for (int wrong : new int[] {-1, 3, 6, 32, Checks.MIN, Checks.MAX}) {
            Checks.noIndex(Checks::used, "whoAnswers(" + wrong + ", 4)", board -> board.whoAnswers(wrong, 4));
            Checks.noIndex(Checks::used, "whoAnswers(" + wrong + ", 0)", board -> board.whoAnswers(wrong, 0));
        }
        Checks.noIndex(SubscriberPromisesTest::alone, "whoAnswers(1, 2)", board -> board.whoAnswers(1, 2));
        Checks.same("the last line", Checks.loaded("board 6 1;user a 5 s 0;").whoAnswers(5, 2), 0);
    }

    /** "Returns the number, 1 or more." */
    private static void promise38Knowers() {
        CordBoard board = new CordBoard();
        for (int secret = 0; secret < 6; secret++) {
            Checks.same("knowers at first", board.knowers(secret), 1);
        }
        board.call(Checks.ANN, Checks.DOT, false);
        Checks.same("knowers of ann's secret", board.knowers(Checks.ANN), 5);
        Checks.same("knowers of dot's secret", board.knowers(Checks.DOT), 5);
        Checks.same("knowers of bea's secret", board.knowers(Checks.BEA), 1);
        CordBoard all = Checks.played(Checks.crowd(15, 1, 9), "call pa po;");
        Checks.same("all know the first", all.knowers(0), 15);
        Checks.same("all know the last", all.knowers(14), 15);
        Checks.same("one knows another", all.knowers(7), 1);
    }

    /** "a tie goes to the lowest number" */
    private static void promise39BestInformed() {
        Checks.same("alone", alone().bestInformed(), 0);
        Checks.same("a tie of all", new CordBoard().bestInformed(), 0);
        CordBoard board = new CordBoard();
        board.call(Checks.EVE, Checks.FAY, false);
        Checks.same("a tie of two", board.bestInformed(), Checks.EVE);
        board.call(Checks.ANN, Checks.BEA, false);
        Checks.same("the listener knows the most", board.bestInformed(), Checks.CAL);
        CordBoard last = Checks.played(Checks.crowd(15, 1, 0), "mood po 9;call pa pb;");
        Checks.same("the last one", last.bestInformed(), 14);
        // The most secrets, not the highest ones.
        CordBoard low = Checks.played(Checks.crowd(15, 5, 0), "call pa pb;end 0;call pa pc;end 1;call po pn;");
        Checks.same("three low ones", low.bestInformed(), 0);
    }

    private static void promises29To38Refused() {
        for (int wrong : new int[] {-1, 6, 7, 15, 32, Checks.MIN, Checks.MAX}) {
            refuses(Checks::used, wrong);
        }
        refuses(SubscriberPromisesTest::alone, 1);
        refuses(SubscriberPromisesTest::crowd, 15);
    }

    private static void refuses(Checks.Maker maker, int wrong) {
        Checks.noIndex(maker, "lineOf(" + wrong + ")", board -> board.lineOf(wrong));
        Checks.noIndex(maker, "curiosity(" + wrong + ")", board -> board.curiosity(wrong));
        Checks.noIndex(maker, "bill(" + wrong + ")", board -> board.bill(wrong));
        Checks.noIndex(maker, "ringCount(" + wrong + ")", board -> board.ringCount(wrong));
        Checks.noIndex(maker, "ringSeconds(" + wrong + ")", board -> board.ringSeconds(wrong));
        Checks.noIndex(maker, "secretsKnown(" + wrong + ")", board -> board.secretsKnown(wrong));
        Checks.noIndex(maker, "neighbours(" + wrong + ")", board -> board.neighbours(wrong));
        Checks.noIndex(maker, "nameByte(" + wrong + ", 0)", board -> board.nameByte(wrong, 0));
        Checks.noIndex(maker, "nameByte(" + wrong + ", -1)", board -> board.nameByte(wrong, -1));
        Checks.noIndex(maker, "knowers(" + wrong + ")", board -> board.knowers(wrong));
    }
}
