/** Promises 1 to 7: a new object, the input buffer, load and play, and the reported error. TermsTextTest has the texts. */
public final class InputPromisesTest {
    private static final int SPACES = 0x20202020;

    private InputPromisesTest() {
    }

    public static void main(String[] args) {
        promise1NewObject();
        promise1FirstState();
        promise1ObjectsAreApart();
        promise1FiveHundredTwelveCalls();
        promise2AppendInOrder();
        promise2AppendAnyByte();
        promise2AppendUpTo700();
        promise2AppendBeyond700();
        promise3TruncateInput();
        promise3TruncateEmptyInput();
        promise3TruncateFullInput();
        promise3AppendBehindWhatIsLeft();
        promise4LoadAnswersTheUsers();
        promise4LoadEmptiesTheBuffer();
        promise4LoadReplacesTheState();
        promise4LoadBeginsAnew();
        promise4NothingIsLeftOfEarlierCalls();
        promise4LoadRunsCommands();
        promise4LoadWithAnError();
        promise5PlayAnswersTheCommands();
        promise5PlayEmptiesTheBuffer();
        promise5PlayIsASingleChange();
        promise5PlayWithAnError();
        promise6ErrorCode();
        promise7ErrorOffset();
        promise6And7StayForOtherCalls();
        Checks.end();
    }

    private static void promise1NewObject() {
        CordBoard board = new CordBoard();
        Checks.same("errorCode", board.errorCode(), 0);
        Checks.same("errorOffset", board.errorOffset(), CordBoard.NONE);
        Checks.same("undoableChanges", board.undoableChanges(), 0);
        Checks.same("outputByte", board.outputByte(0), CordBoard.NONE);
        Checks.same("the input", Checks.inputLength(board), 0);
        Checks.noArgument(CordBoard::new, "truncateInput(1) of a new object", made -> made.truncateInput(1));
        Checks.noState(CordBoard::new, "undo of a new object", made -> made.undo());
        Checks.noState(CordBoard::new, "restore(0) of a new object", made -> made.restore(0));
        Checks.noState(CordBoard::new, "restore(1) of a new object", made -> made.restore(1));
        Checks.same("NONE", CordBoard.NONE, -1);
        Checks.same("WAITING", CordBoard.WAITING, 0);
        Checks.same("TALKING", CordBoard.TALKING, 1);
        Checks.same("ENDED", CordBoard.ENDED, 2);
        Checks.same("CANCELLED", CordBoard.CANCELLED, 3);
    }

    private static void promise1FirstState() {
        CordBoard board = new CordBoard();
        String[] names = {"ann", "bea", "cal", "dot", "eve", "fay"};
        int[] lines = {0, 0, 0, 1, 1, 2};
        int[] codes = {4, 5, 3, 2, 7, 10};
        int[] curiosities = {2, 7, 5, 0, 9, 6};
        Checks.same("users", board.subscriberCount(), names.length);
        for (int user = 0; user < names.length; user++) {
            Checks.same("name", Checks.nameOf(board, user), names[user]);
            Checks.same("line", board.lineOf(user), lines[user]);
            Checks.same("code", board.whoAnswers(lines[user], codes[user]), user);
            Checks.same("curiosity", board.curiosity(user), curiosities[user]);
            Checks.same("bill", board.bill(user), 0);
            Checks.same("secrets", board.secretsKnown(user), 1 << user);
        }
        Checks.same("lines", board.lineCount(), 3);
        Checks.same("cords", board.cordCount(), 2);
        Checks.same("trunks", board.trunkCount(), 1);
        Checks.same("toll", board.toll(0), 20);
        Checks.same("clock", board.clock(), 0);
        Checks.same("calls", board.callCount(), 0);
        Checks.same("as load makes it", Checks.show(board), Checks.show(Checks.loaded(Checks.SETUP)));
    }

    private static void promise1ObjectsAreApart() {
        CordBoard one = Checks.used();
        Checks.type(one, "wait 5;");
        CordBoard two = new CordBoard();
        Checks.same("a second object", Checks.everything(two), Checks.everything(new CordBoard()));
        two.waitFor(3);
        Checks.same("the first object", one.clock(), 115);
        Checks.same("its input", one.truncateInput(7), 7);
    }

    /** "An object is used for at most 512 calls after it has been made": the last of them still answers. */
    private static void promise1FiveHundredTwelveCalls() {
        CordBoard waiting = new CordBoard();
        for (int count = 1; count < 512; count++) {
            Checks.same("waitFor", waiting.waitFor(1), count);
        }
        Checks.same("the 512th call", waiting.undo(), 7);
        CordBoard loading = new CordBoard();
        for (int count = 0; count < 511; count++) {
            Checks.same("load of nothing", loading.load(), CordBoard.NONE);
        }
        Checks.same("the 512th call", loading.call(Checks.FAY, Checks.ANN, true), 0);
        CordBoard restoring = Checks.used();
        int changes = restoring.undoableChanges();
        for (int count = 0; count < 490; count++) {
            Checks.same("restore", restoring.restore(1), 0);
        }
        Checks.same("changes", restoring.undoableChanges(), changes);
    }

    /** "the four bytes of each parameter, the most significant byte first" */
    private static void promise2AppendInOrder() {
        CordBoard board = new CordBoard();
        Checks.same("append", board.append(0x77616974, 0x20313233, 0x343b7761, 0x69742035, 0x3b202020), 20);
        Checks.same("play of wait 1234;wait 5;", board.play(), 2);
        Checks.same("the clock", board.clock(), 1239);
    }

    private static void promise2AppendAnyByte() {
        // Bytes above 127 belong to no token; no byte spoils those before it.
        int[] fours = {0x20202080, 0x202020ff, 0x202020e1, 0x20202000, 0x2020207f};
        for (int four : fours) {
            CordBoard board = new CordBoard();
            board.append(SPACES, SPACES, SPACES, four, -1);
            Checks.same("play of strange bytes", board.play(), CordBoard.NONE);
            Checks.same("the code", board.errorCode(), 1);
            Checks.same("the offset", board.errorOffset(), 15);
        }
        for (int place = 0; place < 20; place++) {
            int[] words = {SPACES, SPACES, SPACES, SPACES, SPACES};
            words[place / 4] ^= 0x80 << 8 * (3 - place % 4);
            CordBoard board = new CordBoard();
            board.append(words[0], words[1], words[2], words[3], words[4]);
            board.play();
            Checks.same("the offset of byte " + place, board.errorOffset(), place);
        }
    }

    private static CordBoard filled(int length) {
        CordBoard board = new CordBoard();
        while (board.append(SPACES, SPACES, SPACES, SPACES, SPACES) != CordBoard.NONE) {
            continue;
        }
        board.truncateInput(length);
        return board;
    }

    private static void promise2AppendUpTo700() {
        CordBoard board = new CordBoard();
        for (int length = 20; length <= 700; length += 20) {
            Checks.same("append", board.append(SPACES, SPACES, SPACES, SPACES, SPACES), length);
        }
        for (int length : new int[] {0, 1, 19, 20, 679, 680}) {
            Checks.same("append to " + length, filled(length).append(1, 2, 3, 4, 5), length + 20);
        }
    }

    /** "NONE, with no change, if it would exceed 700" */
    private static void promise2AppendBeyond700() {
        for (int length : new int[] {681, 682, 690, 699, 700}) {
            CordBoard board = filled(length);
            Checks.same("append to " + length, board.append(-1, -1, -1, -1, -1), CordBoard.NONE);
            Checks.same("the length", board.truncateInput(length), length);
            Checks.same("the bytes are spaces still", board.play(), 0);
            Checks.noArgument(() -> overfilled(length), "a longer input", made -> made.truncateInput(length + 1));
        }
    }

    private static CordBoard overfilled(int length) {
        CordBoard board = filled(length);
        board.append(-1, -1, -1, -1, -1);
        return board;
    }

    private static CordBoard typed() {
        CordBoard board = new CordBoard();
        Checks.type(board, "wait 5;wait 6;junk");
        return board;
    }

    /** "the new length, 0 to the current length" */
    private static void promise3TruncateInput() {
        for (int length : new int[] {-1, 19, 20, 700, 701, Checks.MIN, Checks.MAX}) {
            Checks.noArgument(InputPromisesTest::typed, "truncateInput(" + length + ")", made -> made.truncateInput(length));
        }
        CordBoard board = typed();
        Checks.same("the current length", board.truncateInput(18), 18);
        Checks.same("one less", board.truncateInput(17), 17);
        Checks.same("two commands", board.truncateInput(14), 14);
        Checks.same("one command", board.truncateInput(7), 7);
        Checks.same("play of the rest", board.play(), 1);
        Checks.same("the clock", board.clock(), 5);
        Checks.same("changes", board.undoableChanges(), 1);
        Checks.same("nothing is left", typed().truncateInput(0), 0);
    }

    private static void promise3TruncateEmptyInput() {
        Checks.same("truncateInput(0) of nothing", new CordBoard().truncateInput(0), 0);
        Checks.noArgument(CordBoard::new, "truncateInput(1) of nothing", made -> made.truncateInput(1));
        Checks.noArgument(CordBoard::new, "truncateInput(-1) of nothing", made -> made.truncateInput(-1));
    }

    private static void promise3TruncateFullInput() {
        Checks.same("truncateInput(700)", filled(700).truncateInput(700), 700);
        Checks.same("truncateInput(699)", filled(700).truncateInput(699), 699);
        Checks.noArgument(() -> filled(700), "truncateInput(701)", made -> made.truncateInput(701));
        Checks.noArgument(() -> filled(699), "truncateInput(700)", made -> made.truncateInput(700));
    }

    private static void promise3AppendBehindWhatIsLeft() {
        CordBoard board = typed();
        board.truncateInput(5);
        Checks.same("append", board.append(0x37303b20, SPACES, SPACES, SPACES, SPACES), 25);
        Checks.same("play of wait 70;", board.play(), 1);
        Checks.same("the clock", board.clock(), 70);
    }

    /** "Returns the number of subscribers" */
    private static void promise4LoadAnswersTheUsers() {
        Checks.loads("board 1 1;user a 0 s 0;", 1);
        Checks.loads(Checks.SETUP, 6);
        Checks.loads(Checks.crowd(14, 1, 0), 14);
        Checks.loads(Checks.crowd(15, 6, 0), 15);
    }

    /** "empties the buffer in any case" */
    private static void promise4LoadEmptiesTheBuffer() {
        for (String text : new String[] {Checks.PAIR, "board", "", "$", Checks.repeat(" ", 700)}) {
            CordBoard board = new CordBoard();
            Checks.load(board, text);
            Checks.same("the buffer after load of " + text, Checks.inputLength(board), 0);
            Checks.same("a second load", board.load(), CordBoard.NONE);
            Checks.same("its code", board.errorCode(), 1);
            Checks.same("its offset", board.errorOffset(), 0);
        }
    }

    /** "Without an error the state is replaced" */
    private static void promise4LoadReplacesTheState() {
        CordBoard board = Checks.used();
        Checks.load(board, "board 6 5;trunk 1;trunk 99;user urgent 5 sslls 0;user a 0 l 9;");
        Checks.same("lines", board.lineCount(), 6);
        Checks.same("cords", board.cordCount(), 5);
        Checks.same("trunks", board.trunkCount(), 2);
        Checks.same("toll 1", board.toll(1), 99);
        Checks.same("users", board.subscriberCount(), 2);
        Checks.same("name", Checks.nameOf(board, 0), "urgent");
        Checks.same("line", board.lineOf(0), 5);
        Checks.same("code", board.whoAnswers(5, 38), 0);
        Checks.same("curiosity", board.curiosity(1), 9);
        Checks.same("it is a change", board.undoableChanges(), 8);
        Checks.load(board, "board 1 1;user b 0 s 5;");
        Checks.same("fewer lines", board.lineCount(), 1);
        Checks.same("fewer trunks", board.trunkCount(), 0);
        Checks.same("fewer users", board.subscriberCount(), 1);
        Checks.same("the old rings are gone", board.whoAnswers(0, 3), CordBoard.NONE);
    }

    /** "before the first command the clock and all bills are 0, and there are no calls" */
    private static void promise4LoadBeginsAnew() {
        CordBoard board = Checks.used();
        Checks.same("the bill before", board.bill(Checks.ANN), 5);
        Checks.load(board, Checks.SETUP);
        Checks.same("the state", Checks.show(board), Checks.show(new CordBoard()));
        // Nothing of an earlier text comes into a setup either.
        Checks.play(board, "wait 5;call ann dot;end 0;call cal dot;");
        Checks.load(board, Checks.SETUP);
        Checks.same("the state after a script", Checks.show(board), Checks.show(new CordBoard()));
        Checks.play(board, "wait 5;call ann dot;end 0;call");
        Checks.load(board, Checks.SETUP);
        Checks.same("the state after a wrong script", Checks.show(board), Checks.show(new CordBoard()));
    }

    /** "and there are no calls": those that come have nothing of the calls before, in each state that these had. */
    private static void promise4NothingIsLeftOfEarlierCalls() {
        String[] scripts = {"end 1;end 3;", "trunk cal 0 urgent;call eve fay;", "", "end 1;end 3;end 9;"};
        for (String script : scripts) {
            CordBoard board = Checks.used();
            Checks.play(board, script);
            Checks.load(board, Checks.SETUP);
            requestFive(board);
            CordBoard due = new CordBoard();
            requestFive(due);
            Checks.same("calls after load and " + script, Checks.show(board), Checks.show(due));
            Checks.same("the second call", board.callState(1), CordBoard.WAITING);
            Checks.same("its listeners", board.listeners(1), 0);
            Checks.same("its volume", board.volume(1), 100);
            Checks.same("its end", board.endTime(1), CordBoard.NONE);
        }
    }

    private static void requestFive(CordBoard board) {
        board.call(Checks.ANN, Checks.BEA, false);
        for (int number = 1; number < 5; number++) {
            board.call(Checks.CAL, Checks.ANN, false);
        }
    }

    private static void promise4LoadRunsCommands() {
        CordBoard board = Checks.loaded(Checks.PAIR + "call a b;wait 61;trunk b 0 urgent;end 0;mood a 9;");
        Checks.same("clock", board.clock(), 61);
        Checks.same("call 0", board.callState(0), CordBoard.ENDED);
        Checks.same("call 1", board.callState(1), CordBoard.TALKING);
        Checks.yes("urgent", board.isUrgent(1));
        Checks.same("start", board.startTime(1), 61);
        Checks.same("curiosity", board.curiosity(0), 9);
        Checks.same("bill", board.bill(0), 5);
        Checks.same("a single change", board.undoableChanges(), 1);
        board.undo();
        Checks.same("undo of load", Checks.show(board), Checks.show(new CordBoard()));
    }

    /** "With an error the state does not change." */
    private static void promise4LoadWithAnError() {
        Checks.loadFails("board 1 1;user a 0 s 5;user b 0 l", 1, 33);
        Checks.loadFails(Checks.PAIR + "call a b;wait 5;end 0;end 0;", 7, 71);
        Checks.loadFails("", 1, 0);
    }

    /** "Returns the number of commands" */
    private static void promise5PlayAnswersTheCommands() {
        Checks.plays(Checks::used, "", 0);
        Checks.plays(Checks::used, "     ", 0);
        Checks.plays(Checks::used, "wait 1;", 1);
        Checks.plays(Checks::used, "call ann dot;call bea cal urgent;trunk fay 0 urgent;wait 61;end 1;mood eve 0;", 6);
        Checks.plays(Checks::used, Checks.repeat("wait1;", 116), 116);
    }

    private static void promise5PlayEmptiesTheBuffer() {
        for (String text : new String[] {"wait 5;", "wait 0;", "wait", "", "$"}) {
            CordBoard board = new CordBoard();
            Checks.play(board, text);
            Checks.same("the buffer after play of " + text, Checks.inputLength(board), 0);
            Checks.same("a second play", board.play(), 0);
            Checks.same("its code", board.errorCode(), 0);
        }
    }

    /** "the commands are executed one after the other as a single change (also if there is none)" */
    private static void promise5PlayIsASingleChange() {
        CordBoard board = Checks.played(Checks.SETUP, "call ann dot;call bea cal urgent;trunk fay 0 urgent;wait 61;"
                + "end 0;mood eve 0;");
        CordBoard other = Checks.loaded(Checks.SETUP);
        other.call(Checks.ANN, Checks.DOT, false);
        other.call(Checks.BEA, Checks.CAL, true);
        other.callTrunk(Checks.FAY, 0, true);
        other.waitFor(61);
        other.end(0);
        other.setCuriosity(Checks.EVE, 0);
        Checks.same("play does what the calls do", Checks.show(board), Checks.show(other));
        Checks.same("load and play", board.undoableChanges(), 2);
        board.play();
        Checks.same("an empty script", board.undoableChanges(), 3);
        board.undo();
        Checks.same("undo of the empty script", Checks.show(board), Checks.show(other));
        board.undo();
        Checks.same("undo of the script", Checks.show(board), Checks.show(new CordBoard()));
    }

    /** "With an error the state does not change (commands before the error have no effect)." */
    private static void promise5PlayWithAnError() {
        Checks.playFails(Checks::used, "wait 5;call ann dot;mood ann 9;end 1;wait", 1, 41);
        Checks.playFails(Checks::used, "wait 5;call ann dot;mood ann 9;end 1;end 1;", 7, 42);
        Checks.playFails(Checks::used, "wait 5;call ann dot;end 4;wait 0;", 2, 31);
        Checks.playFails(Checks::used, "x", 1, 0);
    }

    /** "Returns the code, 1 to 7; 0 if there was no error or no such call." */
    private static void promise6ErrorCode() {
        CordBoard board = new CordBoard();
        Checks.same("no such call", board.errorCode(), 0);
        String[] scripts = {"wait;", "wait 0;", "call ann ann;", "call ann dot;end 0;end 0;"};
        int[] scriptCodes = {1, 2, 3, 7};
        for (int index = 0; index < scripts.length; index++) {
            Checks.play(board, scripts[index]);
            Checks.same("code of " + scripts[index], board.errorCode(), scriptCodes[index]);
            board.play();
            Checks.same("code of a play without an error", board.errorCode(), 0);
        }
        String[] setups = {"board", "board 0 1;", "board 1 1;user a 0 s 1;call a a;", "board 1 1;user a 0 s 1;user a 0 l 1;",
            "board 1 1;user a 0 s 1;user b 0 s 1;", "board 1 1;trunk 1;trunk 1;trunk 1;trunk 1;trunk 1;",
            Checks.PAIR + "call a b;end 0;end 0;"};
        for (int index = 0; index < setups.length; index++) {
            Checks.load(board, setups[index]);
            Checks.same("code of " + setups[index], board.errorCode(), index + 1);
            Checks.load(board, Checks.SETUP);
            Checks.same("code of a load without an error", board.errorCode(), 0);
        }
    }

    /** "Returns the offset; NONE if errorCode() is 0." */
    private static void promise7ErrorOffset() {
        CordBoard board = new CordBoard();
        Checks.same("no such call", board.errorOffset(), CordBoard.NONE);
        board.load();
        Checks.same("an empty setup", board.errorOffset(), 0);
        board.play();
        Checks.same("an empty script", board.errorOffset(), CordBoard.NONE);
        Checks.play(board, "x");
        Checks.same("the first byte", board.errorOffset(), 0);
        Checks.play(board, Checks.repeat(" ", 699) + "x");
        Checks.same("the last byte", board.errorOffset(), 699);
        Checks.play(board, Checks.repeat(" ", 696) + "wait");
        Checks.same("behind the last byte", board.errorOffset(), 700);
        Checks.load(board, Checks.SETUP);
        Checks.same("a load without an error", board.errorOffset(), CordBoard.NONE);
    }

    /** "the latest call of load() or play()" */
    private static void promise6And7StayForOtherCalls() {
        CordBoard board = Checks.used();
        Checks.load(board, "board 9 1;");
        board.save(0);
        board.call(Checks.ANN, Checks.DOT, false);
        board.end(4);
        board.callTrunk(Checks.FAY, 0, false);
        board.waitFor(5);
        board.setCuriosity(0, 0);
        board.startsIfEnded(1);
        board.restore(0);
        board.undo();
        board.writeCalls();
        Checks.type(board, "wait 0;");
        Checks.same("the code", board.errorCode(), 2);
        Checks.same("the offset", board.errorOffset(), 6);
        board.play();
        Checks.same("the code of play", board.errorCode(), 2);
        Checks.same("the offset of play", board.errorOffset(), 5);
    }
}
