/** Promises 1 to 7: a new object and the texts. */
public final class InputPromisesTest {
    private static final String HEAD = "board 2 1;user a 0 s 5;";
    private static final String PAIR = "board 1 1;trunk 9;user a 0 s 5;user b 0 l 5;";

    private InputPromisesTest() {
    }

    public static void main(String[] args) {
        promise1NewObject();
        promise2Append();
        promise3TruncateInput();
        promise4Load();
        promise4SetupTokens();
        promise4SetupRanges();
        promise4SetupNames();
        promise4SetupLimits();
        promise5Play();
        promise5CommandErrors();
        promise5CommandLimits();
        promise6And7Errors();
        Checks.end();
    }

    private static void promise1NewObject() {
        CordBoard board = new CordBoard();
        Checks.same("a new object", Checks.showState(board), Checks.showState(Checks.loaded(Checks.SETUP)));
        Checks.same("users", board.subscriberCount(), 6);
        Checks.same("name 5", Checks.nameOf(board, 5), "fay");
        Checks.same("changes", board.undoableChanges(), 0);
        Checks.same("code", board.errorCode(), 0);
        Checks.same("offset", board.errorOffset(), CordBoard.NONE);
        Checks.same("output", board.outputByte(0), CordBoard.NONE);
        Checks.same("input", board.truncateInput(0), 0);
        Checks.noArgument(board, "truncateInput(1) of a new object", () -> board.truncateInput(1));
        Checks.noState(board, "undo of a new object", () -> board.undo());
        Checks.noState(board, "restore(0) of a new object", () -> board.restore(0));
        Checks.noState(board, "restore(1) of a new object", () -> board.restore(1));
        Checks.same("NONE", CordBoard.NONE, -1);
        Checks.same("WAITING", CordBoard.WAITING, 0);
        Checks.same("TALKING", CordBoard.TALKING, 1);
        Checks.same("ENDED", CordBoard.ENDED, 2);
        Checks.same("CANCELLED", CordBoard.CANCELLED, 3);
    }

    private static void promise2Append() {
        CordBoard board = new CordBoard();
        for (int length = 20; length <= 680; length += 20) {
            Checks.same("append", board.append(0x20202020, 0x20202020, 0x20202020, 0x20202020, 0x20202020), length);
        }
        board.truncateInput(679);
        Checks.same("append up to 699", board.append(0, 0, 0, 0, 0), 699);
        board.truncateInput(681);
        Checks.same("append beyond 700", board.append(0, 0, 0, 0, 0), CordBoard.NONE);
        Checks.same("the length after it", Checks.inputLength(board), 681);
        board.truncateInput(680);
        Checks.same("append up to 700", board.append(0, 0, 0, 0, 0x20202020), 700);
        Checks.same("append to a full buffer", board.append(0, 0, 0, 0, 0), CordBoard.NONE);
        Checks.same("the full length", board.truncateInput(700), 700);
        // The bytes come in the order of the parameters, the most significant byte first.
        board.truncateInput(0);
        board.append(0x77616974, 0x20313233, 0x343b7761, 0x69742035, 0x3b202020);
        Checks.same("play of wait 1234;wait 5;", board.play(), 2);
        Checks.same("the clock", board.clock(), 1239);
        // A byte above 127 is a byte like others and belongs to no token.
        board.append(0x20202080, 0xffffffff, -1, -1, -1);
        Checks.same("play of strange bytes", board.play(), CordBoard.NONE);
        Checks.same("its code", board.errorCode(), 1);
        Checks.same("its offset", board.errorOffset(), 3);
    }

    private static void promise3TruncateInput() {
        CordBoard board = new CordBoard();
        Checks.type(board, "wait 5;wait 6;junk");
        Checks.noArgument(board, "truncateInput(19)", () -> board.truncateInput(19));
        for (int length : Checks.WRONG) {
            Checks.noArgument(board, "truncateInput(" + length + ")", () -> board.truncateInput(length));
        }
        Checks.same("truncateInput(18)", board.truncateInput(18), 18);
        Checks.same("truncateInput(14)", board.truncateInput(14), 14);
        Checks.same("truncateInput(7)", board.truncateInput(7), 7);
        Checks.noArgument(board, "truncateInput(8)", () -> board.truncateInput(8));
        Checks.same("play of the rest", board.play(), 1);
        Checks.same("clock", board.clock(), 5);
        Checks.same("truncateInput(0)", board.truncateInput(0), 0);
        Checks.same("changes", board.undoableChanges(), 1);
    }

    private static void promise4Load() {
        CordBoard board = new CordBoard();
        board.call(0, 1, false);
        board.waitFor(10);
        board.end(0);
        board.save(0);
        Checks.same("load", Checks.load(board, "board 6 5;trunk 1;trunk 99;user urgent 5 sslls 0;user a 0 l 9;"), 2);
        Checks.same("the buffer", Checks.inputLength(board), 0);
        Checks.same("lines", board.lineCount(), 6);
        Checks.same("cords", board.cordCount(), 5);
        Checks.same("trunks", board.trunkCount(), 2);
        Checks.same("toll 1", board.toll(1), 99);
        Checks.same("clock", board.clock(), 0);
        Checks.same("bill", board.bill(0), 0);
        Checks.same("calls", board.callCount(), 0);
        Checks.same("secrets", board.secretsKnown(1), 2);
        Checks.same("name", Checks.nameOf(board, 0), "urgent");
        Checks.same("changes", board.undoableChanges(), 4);
        Checks.same("restore after load", board.restore(0), 10);
        Checks.same("users after restore", board.subscriberCount(), 6);
        // Nothing of an earlier script comes into a setup.
        Checks.play(board, "wait 5;call ann dot;");
        Checks.load(board, PAIR);
        Checks.same("clock after a script", board.clock(), 0);
        Checks.same("calls after a script", board.callCount(), 0);
        CordBoard owing = Checks.loaded(PAIR + "call a b;end 0;call b a;end 1;");
        Checks.load(owing, PAIR);
        Checks.same("bill a after bills", owing.bill(0), 0);
        Checks.same("bill b after bills", owing.bill(1), 0);
        // Commands of a setup run on the new board.
        Checks.same("load with commands", Checks.load(board, PAIR + "call a b;wait 61;trunk b 0 urgent;end 0;mood a 9;"), 2);
        Checks.same("clock after them", board.clock(), 61);
        Checks.same("call 0", board.callState(0), CordBoard.ENDED);
        Checks.same("call 1", board.callState(1), CordBoard.TALKING);
        Checks.same("urgent", board.isUrgent(1) ? 1 : 0, 1);
        Checks.same("start", board.startTime(1), 61);
        Checks.same("mood", board.curiosity(0), 9);
        Checks.same("bill a", board.bill(0), 5);
    }

    private static void promise4SetupTokens() {
        Checks.loadFails("", 1, 0);
        Checks.loadFails("   ", 1, 3);
        Checks.loadFails("bored 1 1;", 1, 0);
        Checks.loadFails("hoard 1 1;user a 0 s 5;", 1, 0);
        Checks.loadFails("boart 1 1;user a 0 s 5;", 1, 0);
        Checks.loadFails("boards 1 1;user a 0 s 5;", 1, 0);
        Checks.loadFails("boar 1 1;user a 0 s 5;", 1, 0);
        Checks.loadFails("board 1 1;drunk 5;user a 0 s 5;", 1, 10);
        Checks.loadFails("board 1 1;uses a 0 s 5;", 1, 10);
        Checks.loadFails("board", 1, 5);
        Checks.loadFails("board  ", 1, 7);
        Checks.loadFails("board x 1;user a 0 s 5;", 1, 6);
        Checks.loadFails("board 1;user a 0 s 5;", 1, 7);
        Checks.loadFails("board 1 1 user a 0 s 5;", 1, 10);
        Checks.loadFails("board 1 1;", 1, 10);
        Checks.loadFails("board 1 1;trunk 5;", 1, 18);
        Checks.loadFails("board 1 1;trunk a;user a 0 s 5;", 1, 16);
        Checks.loadFails("board 1 1;wait 5;", 1, 10);
        Checks.loadFails("board 1 1;;user a 0 s 5;", 1, 10);
        Checks.loadFails("Board 1 1;user a 0 s 5;", 1, 0);
        Checks.loadFails("board 1 1;user a 0 s 5", 1, 22);
        Checks.loadFails("board 1 1;user a 0 s 5,", 1, 22);
        Checks.loadFails("board 1 1;user a 0 s ;", 1, 21);
        Checks.loadFails("board 1 1;user a 0 5;", 1, 19);
        Checks.loadFails("board 1 1;user a s 5;", 1, 17);
        Checks.loadFails("board 1 1;user 0 0 s 5;", 1, 15);
        Checks.loadFails("board 1 1;user ab$ 0 s 5;", 1, 17);
        Checks.loadFails("board 1 1;user a 0 s 5;$", 1, 23);
        Checks.loadFails("board 1 -1;user a 0 s 5;", 1, 8);
        Checks.loadFails("board\t1 1;user a 0 s 5;", 1, 5);
        Checks.loadFails(HEAD + "trunk 5;", 1, 29);
        Checks.loadFails(HEAD + "wait 5;user b 0 l 5;", 1, 30);
        Checks.loadFails(HEAD + "user b 0 sa 5;", 1, 32);
        Checks.loadFails(HEAD + "user b 0 ssssss 5;", 1, 32);
        Checks.loadFails(HEAD + "user b 0 lsslss 5;", 1, 32);
        Checks.same("spaces only where needed", Checks.load(new CordBoard(), "board1 1;trunk5;user a0s5;user b0l0;wait5;call a b;"), 2);
        Checks.same("spaces everywhere", Checks.load(new CordBoard(), "  board  1  1  ; user  a  0  s  5  ;  "), 1);
        Checks.same("leading zeros", Checks.load(new CordBoard(), "board 0000000000000000000001 06;user a 00 s 009;"), 1);
    }

    private static void promise4SetupRanges() {
        Checks.loadFails("board 0 1;", 2, 6);
        Checks.loadFails("board 7 1;", 2, 6);
        Checks.loadFails("board 1 0;", 2, 8);
        Checks.loadFails("board 1 7;", 2, 8);
        Checks.loadFails("board 4294967297 1;", 2, 6);
        Checks.loadFails("board 18446744073709551617 1;", 2, 6);
        Checks.loadFails("board 1 1;trunk 0;", 2, 16);
        Checks.loadFails("board 1 1;trunk 100;", 2, 16);
        Checks.loadFails("board 1 1;user a 1 s 5;", 2, 17);
        Checks.loadFails("board 6 1;user a 6 s 5;", 2, 17);
        Checks.loadFails("board 1 1;user a 0 s 10;", 2, 21);
        Checks.same("largest", Checks.load(new CordBoard(), "board 6 6;trunk 99;user a 5 sssss 9;"), 1);
        Checks.same("smallest", Checks.load(new CordBoard(), "board 1 1;trunk 1;user a 0 s 0;"), 1);
    }

    private static void promise4SetupNames() {
        Checks.same("a name of 6", Checks.load(new CordBoard(), "board 1 1;user abcdef 0 s 5;"), 1);
        Checks.loadFails("board 1 1;user abcdefg 0 s 5;", 1, 15);
        Checks.loadFails(HEAD + "user a 1 l 5;", 4, 28);
        Checks.loadFails(HEAD + "user a 7 x 50", 4, 28);
        Checks.same("keywords", Checks.load(new CordBoard(),
                "board 2 1;user user 0 ss 5;user call 0 sl 5;user end 1 s 5;user urgent 1 l 5;"
                        + "call urgent user urgent;trunk end 0;"), CordBoard.NONE);
        Checks.same("keywords as names", Checks.load(new CordBoard(),
                "board 2 1;trunk 1;user user 0 ss 5;user call 0 sl 5;user end 1 s 5;user urgent 1 l 5;"
                        + "call urgent user urgent;trunk end 0;call call urgent;"), 4);
        Checks.loadFails(HEAD + "user b 0 s 5;", 5, 32);
        Checks.loadFails(HEAD + "user b 0 sl 5;", 5, 32);
        Checks.loadFails(HEAD + "user b 0 sllll 5;", 5, 32);
        Checks.loadFails("board 1 1;user a 0 llsl 5;user b 0 ll 5;", 5, 35);
        Checks.loadFails("board 1 1;user a 0 llsl 5;user b 0 l 5;", 5, 35);
        Checks.same("other beginnings", Checks.load(new CordBoard(), "board 1 1;user a 0 llsl 5;user b 0 lll 5;user c 0 s 1;"), 3);
        Checks.same("the same rings on two lines", Checks.load(new CordBoard(), HEAD + "user b 1 s 5;"), 2);
    }

    private static void promise4SetupLimits() {
        String trunks = "board 1 1;trunk 1;trunk 2;trunk 3;trunk 4;";
        Checks.same("4 trunks", Checks.load(new CordBoard(), trunks + "user a 0 s 5;"), 1);
        Checks.loadFails(trunks + "trunk 5;user a 0 s 5;", 6, trunks.length());
        Checks.loadFails(trunks + "trunk", 6, trunks.length());
        String users = manyUsers(15);
        Checks.same("15 users", Checks.load(new CordBoard(), users), 15);
        Checks.same("15 users and a command", Checks.load(new CordBoard(), users + "trunk pc 0;"), CordBoard.NONE);
        Checks.loadFails(users + "user px 0 lllll 5;", 6, users.length());
        Checks.loadFails(users + "wait 5;user", 1, users.length() + 7);
    }

    private static String manyUsers(int users) {
        String[] rings = {"sss", "ssl", "sls", "sll", "lss", "lsl", "lls", "lll"};
        StringBuilder text = new StringBuilder("board 2 1;");
        for (int user = 0; user < users; user++) {
            text.append("user p").append((char) ('a' + user)).append(' ').append(user / 8).append(' ')
                    .append(rings[user % 8]).append(" 5;");
        }
        return text.toString();
    }

    private static void promise5Play() {
        CordBoard board = new CordBoard();
        String before = Checks.showState(board);
        Checks.same("play of nothing", board.play(), 0);
        Checks.same("it is a change", board.undoableChanges(), 1);
        Checks.same("play of spaces", Checks.play(board, "    "), 0);
        Checks.same("play", Checks.play(board, "call ann dot;call bea cal urgent;trunk fay 0 urgent;wait 61;end 0;mood eve 0;"), 6);
        Checks.same("the buffer", Checks.inputLength(board), 0);
        Checks.same("a single change", board.undoableChanges(), 3);
        CordBoard other = new CordBoard();
        other.call(Checks.ANN, Checks.DOT, false);
        other.call(Checks.BEA, Checks.CAL, true);
        other.callTrunk(Checks.FAY, 0, true);
        other.waitFor(61);
        other.end(0);
        other.setCuriosity(Checks.EVE, 0);
        Checks.same("play does what the calls do", Checks.showState(board), Checks.showState(other));
        board.undo();
        Checks.same("undo of a script", Checks.showState(board), before);
        Checks.playFails(board, "wait 5;call ann dot;wait", 1, 24);
        Checks.same("the clock after an error", board.clock(), 0);
    }

    private static void promise5CommandErrors() {
        CordBoard board = Checks.loaded(PAIR);
        Checks.playFails(board, ";", 1, 0);
        Checks.playFails(board, "hang 0;", 1, 0);
        Checks.playFails(board, "gait 5;", 1, 0);
        Checks.playFails(board, "WAIT 5;", 1, 0);
        Checks.playFails(board, "calls a b;", 1, 0);
        Checks.playFails(board, "call a b urgen;", 1, 9);
        Checks.playFails(board, "call a b;and 0;", 1, 9);
        Checks.playFails(board, "food a 5;", 1, 0);
        Checks.playFails(board, "board 1 1;", 1, 0);
        Checks.playFails(board, "user c 0 ss 5;", 1, 0);
        Checks.playFails(board, "call", 1, 4);
        Checks.playFails(board, "call a b", 1, 8);
        Checks.playFails(board, "call a b b;", 1, 9);
        Checks.playFails(board, "call a b urgent urgent;", 1, 16);
        Checks.playFails(board, "call a b 1;", 1, 9);
        Checks.playFails(board, "call a;", 1, 6);
        Checks.playFails(board, "call 0 1;", 1, 5);
        Checks.playFails(board, "call abcdefg b;", 1, 5);
        Checks.playFails(board, "call a abcdefg;", 1, 7);
        Checks.playFails(board, "call abcdef b;", 3, 5);
        Checks.playFails(board, "call c b;", 3, 5);
        Checks.playFails(board, "call a c;", 3, 7);
        Checks.playFails(board, "call a a;", 3, 7);
        Checks.playFails(board, "call a urgent;", 3, 7);
        Checks.playFails(board, "trunk 0 a;", 1, 6);
        Checks.playFails(board, "trunk a;", 1, 7);
        Checks.playFails(board, "trunk a b;", 1, 8);
        Checks.playFails(board, "trunk c 0;", 3, 6);
        Checks.playFails(board, "trunk a 1;", 2, 8);
        Checks.playFails(board, "trunk a 0 wait 5;", 1, 10);
        Checks.playFails(board, "end a;", 1, 4);
        Checks.playFails(board, "end 0;", 2, 4);
        Checks.playFails(board, "call a b;end 1;", 2, 13);
        Checks.playFails(board, "wait;", 1, 4);
        Checks.playFails(board, "wait 5 urgent;", 1, 7);
        Checks.playFails(board, "wait 0;", 2, 5);
        Checks.playFails(board, "wait 10000;", 2, 5);
        Checks.playFails(board, "wait 4294967301;", 2, 5);
        Checks.playFails(board, "mood 0 a;", 1, 5);
        Checks.playFails(board, "mood c 5;", 3, 5);
        Checks.playFails(board, "mood a b;", 1, 7);
        Checks.playFails(board, "mood a 10;", 2, 7);
        Checks.playFails(board, "mood a 9", 1, 8);
        Checks.same("edges", Checks.play(board, "wait 1;wait 9999;mood a 0;mood b 9;trunk b 0;"), 5);
        Checks.playFails(Checks.loaded(HEAD), "trunk a 0;", 2, 8);
    }

    private static void promise5CommandLimits() {
        CordBoard board = Checks.loaded(PAIR);
        Checks.playFails(board, "call a b;end 0;end 0;", 7, 20);
        Checks.playFails(board, "call a b;call b a;end 1;end 1;", 7, 29);
        Checks.playFails(board, "call a b;end 0;end 0 5;", 1, 21);
        for (int second = 0; second < 100; second++) {
            board.waitFor(9999);
        }
        board.waitFor(90);
        Checks.playFails(board, "wait 10;", 2, 5);
        Checks.playFails(board, "wait 1;wait 9;", 2, 12);
        Checks.same("up to the last second", Checks.play(board, "wait 2;wait 7;"), 2);
        Checks.same("the last second", board.clock(), 999999);
        Checks.playFails(board, "wait 1;", 2, 5);
        for (int number = 0; number < 38; number++) {
            board.call(0, 1, false);
        }
        Checks.playFails(board, "call a b;call a b;call a b;", 6, 26);
        Checks.playFails(board, "call a b;trunk a 0;trunk b 0 urgent;", 6, 35);
        Checks.playFails(board, "call a b;trunk a 0;call a b", 1, 27);
        Checks.same("40 calls", Checks.play(board, "call a b;trunk a 0;wait 1;"), CordBoard.NONE);
        Checks.same("up to 40 calls", Checks.play(board, "call a b;trunk a 0;end 39;"), 3);
        Checks.same("calls", board.callCount(), 40);
    }

    private static void promise6And7Errors() {
        CordBoard board = new CordBoard();
        Checks.load(board, "board 9 1;");
        Checks.same("code of load", board.errorCode(), 2);
        Checks.same("offset of load", board.errorOffset(), 6);
        board.save(0);
        board.restore(0);
        board.undo();
        Checks.noIndex(board, "call(0, 9)", () -> board.call(0, 9, false));
        Checks.same("code after other calls", board.errorCode(), 2);
        Checks.same("offset after other calls", board.errorOffset(), 6);
        Checks.play(board, "call ann ann;");
        Checks.same("code of play", board.errorCode(), 3);
        Checks.same("offset of play", board.errorOffset(), 9);
        board.play();
        Checks.same("code after a good play", board.errorCode(), 0);
        Checks.same("offset after a good play", board.errorOffset(), CordBoard.NONE);
        board.load();
        Checks.same("code of an empty setup", board.errorCode(), 1);
        Checks.same("offset of an empty setup", board.errorOffset(), 0);
        Checks.load(board, Checks.SETUP);
        Checks.same("code after a good load", board.errorCode(), 0);
        Checks.same("offset after a good load", board.errorOffset(), CordBoard.NONE);
    }
}
