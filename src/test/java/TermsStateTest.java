/** The parts 1 to 4 of the terms, sentence by sentence: lines and subscribers, calls, listening, bills. */
public final class TermsStateTest {
    private static final String SIX = "board 6 2;trunk 5;trunk 6;user a 0 s 0;user b 1 s 0;user c 2 s 0;user d 3 s 0;"
            + "user e 4 s 0;user f 5 s 0;user g 0 l 0;";
    private static final String LINE = "board 1 1;user a 0 s 0;user b 0 ls 0;user c 0 ll 0;";

    private TermsStateTest() {
    }

    public static void main(String[] args) {
        linesAreOneToSix();
        subscribersAreOneToFifteen();
        curiosityIsZeroToNine();
        codesHaveOneToFiveRings();
        codesOfALineDoNotBeginAlike();
        codesOfTwoLinesMayBeginAlike();
        ringsTakeSeconds();
        cordsAreOneToSix();
        trunksAreNoneToFour();
        tollsAreOneToNinetyNine();
        billsAreZeroAtFirst();
        justTheOwnSecretIsKnownAtFirst();
        clockEndsAt999999();
        fortyCallsAtMost();
        fortyCallsSinceTheLatestLoad();
        callsAreNumberedAsRequested();
        talkingCallsUseTheirLines();
        callsToTrunksUseNoOtherLine();
        callsOnOneLineUseNoCord();
        callsNeedTheCallersLine();
        callsNeedTheOtherLine();
        callsNeedTheTrunk();
        callsNeedACord();
        callsOnOneLineNeedNoCord();
        requestedCallsMayPassWaitingOnes();
        waitingCallsStartWhenOneEnds();
        urgentCallsAreLookedAtFirst();
        callsThatCannotStartAreLeftOut();
        startedCallsKeepLaterOnesWaiting();
        cancelledCallsStartNone();
        fiveIsCuriousEnough();
        callerAndOtherDoNotListen();
        onlyTheLinesInUseAreHeard();
        listenersAreThoseOfTheStart();
        volumeForEachNumberOfListeners();
        bothKnowAllSecrets();
        trunksTellNothing();
        listenersLearnWhatIsTold();
        secretsAreToldAtTheStart();
        secretsGoOnFromCallToCall();
        callsToSubscribersCostFiveCents();
        callsToTrunksCostEachMinute();
        longestAndDearestCall();
        billsGrowAtTheEnd();
        cancelledCallsCostNothing();
        Checks.end();
    }

    // ---- lines and subscribers

    /** "There are 1 to 6 lines, numbered from 0." */
    private static void linesAreOneToSix() {
        for (int lines = 1; lines <= 6; lines++) {
            String board = "board " + lines + " 1;user a ";
            Checks.same("lines", Checks.loaded(board + (lines - 1) + " s 0;").lineCount(), lines);
            Checks.same("the last line", Checks.loaded(board + (lines - 1) + " s 0;").lineOf(0), lines - 1);
            Checks.same("line 0", Checks.loaded(board + "0 s 0;").lineOf(0), 0);
            Checks.loadFails(board + lines + " s 0;", 2, 17);
        }
        Checks.loadFails("board 0 1;user a 0 s 0;", 2, 6);
        Checks.loadFails("board 7 1;user a 0 s 0;", 2, 6);
    }

    /** "There are 1 to 15 subscribers, numbered from 0" */
    private static void subscribersAreOneToFifteen() {
        String none = Checks.crowd(0, 3, 0);
        Checks.loadFails(none, 1, none.length());
        for (int users = 1; users <= 15; users++) {
            CordBoard board = Checks.loaded(Checks.crowd(users, 3, 0));
            Checks.same("users", board.subscriberCount(), users);
            Checks.same("the first one", Checks.nameOf(board, 0), "pa");
            Checks.same("the last one", Checks.nameOf(board, users - 1), "p" + (char) ('a' + users - 1));
        }
        Checks.loadFails(Checks.crowd(16, 3, 0), 6, Checks.crowd(15, 3, 0).length());
    }

    /** "a curiosity from 0 to 9" */
    private static void curiosityIsZeroToNine() {
        for (int curiosity = 0; curiosity <= 9; curiosity++) {
            Checks.same("curiosity", Checks.loaded("board 1 1;user a 0 s " + curiosity + ";").curiosity(0), curiosity);
        }
        Checks.loadFails("board 1 1;user a 0 s 10;", 2, 21);
    }

    /** "A code is a sequence of 1 to 5 rings" */
    private static void codesHaveOneToFiveRings() {
        for (int rings = 1; rings <= 5; rings++) {
            String codes = "board 2 1;user a 0 " + Checks.repeat("s", rings) + " 0;user b 1 " + Checks.repeat("l", rings);
            CordBoard board = Checks.loaded(codes + " 0;");
            Checks.same("short rings", board.ringCount(0), rings);
            Checks.same("long rings", board.ringCount(1), rings);
        }
        Checks.loadFails("board 1 1;user a 0 0;", 1, 19);
        Checks.loadFails("board 1 1;user a 0 ssssss 0;", 1, 19);
        Checks.loadFails("board 1 1;user a 0 llllll 0;", 1, 19);
    }

    /** "No code .. is the beginning of, or the same as, the code of another subscriber of the same line." */
    private static void codesOfALineDoNotBeginAlike() {
        for (int first = 2; first < 64; first++) {
            for (int second = 2; second < 64; second++) {
                String one = Checks.ringsOf(first);
                String two = Checks.ringsOf(second);
                boolean isAlike = one.startsWith(two) || two.startsWith(one);
                CordBoard board = new CordBoard();
                int users = Checks.load(board, "board 1 1;user a 0 " + one + " 0;user b 0 " + two + " 0;");
                Checks.same(one + " and " + two, users, isAlike ? CordBoard.NONE : 2);
                Checks.same("code of " + one + " and " + two, board.errorCode(), isAlike ? 5 : 0);
            }
        }
        // Not only the latest subscriber counts.
        Checks.loadFails("board 2 1;user a 0 sl 0;user b 1 l 0;user c 0 ll 0;user d 0 s 0;", 5, 60);
    }

    /** ".. of another subscriber of the same line" */
    private static void codesOfTwoLinesMayBeginAlike() {
        Checks.loads("board 3 1;user a 0 s 0;user b 1 s 0;user c 2 sl 0;", 3);
    }

    /** "A short ring takes 1 second, a long ring 3 seconds, and the pause between two rings 1 second." */
    private static void ringsTakeSeconds() {
        for (int number = 2; number < 64; number++) {
            String rings = Checks.ringsOf(number);
            int seconds = -1;
            for (char ring : rings.toCharArray()) {
                seconds += 1 + (ring == 's' ? 1 : 3);
            }
            CordBoard board = Checks.loaded("board 1 1;user a 0 " + rings + " 0;");
            Checks.same("seconds of " + rings, board.ringSeconds(0), seconds);
            Checks.same("rings of " + rings, board.ringCount(0), rings.length());
        }
    }

    /** "There are 1 to 6 cords" */
    private static void cordsAreOneToSix() {
        for (int cords = 1; cords <= 6; cords++) {
            CordBoard board = Checks.loaded("board 1 " + cords + ";user a 0 s 0;");
            Checks.same("cords", board.cordCount(), cords);
            Checks.same("free cords", board.freeCords(), cords);
        }
        Checks.loadFails("board 1 0;user a 0 s 0;", 2, 8);
        Checks.loadFails("board 1 7;user a 0 s 0;", 2, 8);
    }

    /** "0 to 4 trunks, numbered from 0" */
    private static void trunksAreNoneToFour() {
        StringBuilder trunks = new StringBuilder("board 1 1;");
        for (int count = 0; count <= 4; count++) {
            CordBoard board = Checks.loaded(trunks + "user a 0 s 0;");
            Checks.same("trunks", board.trunkCount(), count);
            for (int trunk = 0; trunk < count; trunk++) {
                Checks.same("toll", board.toll(trunk), 10 + trunk);
            }
            trunks.append("trunk ").append(10 + count).append(';');
        }
        Checks.loadFails(trunks + "user a 0 s 0;", 6, trunks.length() - 9);
    }

    /** "each with a toll from 1 to 99 cents" */
    private static void tollsAreOneToNinetyNine() {
        Checks.same("toll 1", Checks.loaded("board 1 1;trunk 1;user a 0 s 0;").toll(0), 1);
        Checks.same("toll 99", Checks.loaded("board 1 1;trunk 99;user a 0 s 0;").toll(0), 99);
        Checks.loadFails("board 1 1;trunk 0;user a 0 s 0;", 2, 16);
        Checks.loadFails("board 1 1;trunk 100;user a 0 s 0;", 2, 16);
    }

    /** "Each subscriber has a bill in cents, which is 0 at first" */
    private static void billsAreZeroAtFirst() {
        CordBoard board = Checks.played(Checks.crowd(15, 1, 0), "call pa pb;end 0;call po pa;end 1;");
        Checks.same("bill pa", board.bill(0), 5);
        Checks.same("bill po", board.bill(14), 5);
        Checks.load(board, Checks.crowd(15, 1, 0));
        for (int user = 0; user < 15; user++) {
            Checks.same("bill at first", board.bill(user), 0);
        }
    }

    /** "At first each subscriber knows just the own secret." */
    private static void justTheOwnSecretIsKnownAtFirst() {
        CordBoard board = Checks.played(Checks.crowd(15, 1, 9), "call pa po;");
        Checks.same("secrets before", board.secretsKnown(7), 1 | 1 << 7 | 1 << 14);
        Checks.load(board, Checks.crowd(15, 1, 9));
        for (int user = 0; user < 15; user++) {
            Checks.same("secrets at first", board.secretsKnown(user), 1 << user);
        }
    }

    // ---- calls

    /** "The clock counts seconds from 0 to 999999." */
    private static void clockEndsAt999999() {
        Checks.same("the first clock", new CordBoard().clock(), 0);
        Checks.same("the last clock", Checks.late(999998).waitFor(1), 999999);
        Checks.noState(() -> Checks.late(999999), "a second too many", board -> board.waitFor(1));
        Checks.noState(() -> Checks.late(999998), "two seconds of one", board -> board.waitFor(2));
        Checks.noState(() -> Checks.late(990001), "9999 seconds of 9998", board -> board.waitFor(9999));
        Checks.same("9999 seconds of 9999", Checks.late(990000).waitFor(9999), 999999);
        Checks.plays(() -> Checks.late(990000), "wait 9999;", 1);
        Checks.playFails(() -> Checks.late(990001), "wait 9999;", 2, 5);
        Checks.playFails(() -> Checks.late(999999), "wait 1;", 2, 5);
    }

    /** "There are at most 40 calls" */
    private static void fortyCallsAtMost() {
        Checks.same("the 40th call", Checks.withCalls(39).call(0, 1, false), 39);
        Checks.same("a 40th call to a trunk", Checks.withCalls(39).callTrunk(0, 0, false), 39);
        Checks.plays(() -> Checks.withCalls(39), "call a b;", 1);
        Checks.plays(() -> Checks.withCalls(39), "trunk a 0;", 1);
        Checks.noState(() -> Checks.withCalls(40), "a 41st call", board -> board.call(0, 1, false));
        Checks.noState(() -> Checks.withCalls(40), "a 41st call to a trunk", board -> board.callTrunk(0, 0, true));
        Checks.playFails(() -> Checks.withCalls(40), "call a b;", 6, 8);
        Checks.playFails(() -> Checks.withCalls(40), "trunk a 0;", 6, 9);
        // Calls that are over count too.
        Checks.same("calls of which some are over", endedAndFull().callCount(), 40);
        Checks.noState(TermsStateTest::endedAndFull, "a 41st call after an end", board -> board.call(0, 1, false));
    }

    private static CordBoard endedAndFull() {
        CordBoard board = Checks.withCalls(40);
        board.end(0);
        board.end(39);
        return board;
    }

    /** "at most 40 calls since the latest load" */
    private static void fortyCallsSinceTheLatestLoad() {
        CordBoard board = Checks.withCalls(40);
        board.save(0);
        Checks.load(board, Checks.PAIR);
        Checks.same("calls after load", board.callCount(), 0);
        Checks.same("the first call after load", board.call(0, 1, false), 0);
        Checks.same("it starts", board.callState(0), CordBoard.TALKING);
        board.restore(0);
        Checks.same("calls after restore", board.callCount(), 40);
        board.undo();
        board.undo();
        board.undo();
        Checks.same("calls after undo of load", board.callCount(), 40);
        board.undo();
        Checks.same("there is room again", board.call(1, 0, true), 39);
        Checks.noState(TermsStateTest::refilled, "a 41st call after load", full -> full.call(0, 1, false));
        Checks.noState(TermsStateTest::restoredFull, "a 41st call after restore", full -> full.call(0, 1, false));
        Checks.same("40 calls of a setup and a script", scripted().callCount(), 40);
        Checks.playFails(TermsStateTest::scripted, "call a b;", 6, 8);
    }

    private static CordBoard refilled() {
        CordBoard board = Checks.withCalls(7);
        Checks.load(board, Checks.PAIR);
        for (int number = 0; number < 40; number++) {
            Checks.same("a call after load", board.call(0, 1, false), number);
        }
        return board;
    }

    private static CordBoard restoredFull() {
        CordBoard board = Checks.withCalls(40);
        board.save(1);
        Checks.load(board, Checks.PAIR);
        board.restore(1);
        return board;
    }

    private static CordBoard scripted() {
        return Checks.played(Checks.PAIR + Checks.repeat("call a b;", 20), Checks.repeat("trunk b 0;", 20));
    }

    /** "numbered from 0 in the order in which they were requested" */
    private static void callsAreNumberedAsRequested() {
        CordBoard board = Checks.loaded(Checks.PAIR);
        for (int number = 0; number < 40; number++) {
            boolean isToTrunk = number % 3 == 0;
            int got = isToTrunk ? board.callTrunk(number % 2, 0, false) : board.call(number % 2, 1 - number % 2, true);
            Checks.same("the number", got, number);
        }
        for (int number = 0; number < 40; number++) {
            Checks.same("the caller", board.callerOf(number), number % 2);
            Checks.same("the trunk", board.calledTrunk(number), number % 3 == 0 ? 0 : CordBoard.NONE);
        }
    }

    private static String busyThings(CordBoard board) {
        StringBuilder text = new StringBuilder();
        for (int line = 0; line < board.lineCount(); line++) {
            text.append(board.isLineBusy(line) ? "L" + line + " " : "");
        }
        for (int trunk = 0; trunk < board.trunkCount(); trunk++) {
            text.append(board.isTrunkBusy(trunk) ? "T" + trunk + " " : "");
        }
        return text + "cords " + board.freeCords();
    }

    /** "A talking call uses the line of the caller and .. the line of this subscriber" */
    private static void talkingCallsUseTheirLines() {
        Checks.same("none", busyThings(Checks.loaded(SIX)), "cords 2");
        Checks.same("a and f", busyThings(Checks.played(SIX, "call a f;")), "L0 L5 cords 1");
        Checks.same("f and a", busyThings(Checks.played(SIX, "call f a;")), "L0 L5 cords 1");
        Checks.same("waiting", busyThings(Checks.played(SIX, "call a f;call a b;")), "L0 L5 cords 1");
        Checks.same("ended", busyThings(Checks.played(SIX, "call a f;end 0;")), "cords 2");
        Checks.same("two", busyThings(Checks.played(SIX, "call a f;call c d;")), "L0 L2 L3 L5 cords 0");
    }

    /** "if it leads to a trunk, it uses the trunk" */
    private static void callsToTrunksUseNoOtherLine() {
        Checks.same("a and 1", busyThings(Checks.played(SIX, "trunk a 1;")), "L0 T1 cords 1");
        Checks.same("f and 0", busyThings(Checks.played(SIX, "trunk f 0;")), "L5 T0 cords 1");
        Checks.same("ended", busyThings(Checks.played(SIX, "trunk f 0;end 0;")), "cords 2");
    }

    /** "It uses a cord, except if it leads to a subscriber on the caller's own line." */
    private static void callsOnOneLineUseNoCord() {
        Checks.same("on one line", busyThings(Checks.played(SIX, "call a g;")), "L0 cords 2");
        Checks.same("back", busyThings(Checks.played(SIX, "call g a;")), "L0 cords 2");
    }

    private static void obstacleIs(String script, int number, int due) {
        CordBoard board = Checks.played(SIX, script);
        Checks.same("state after " + script, board.callState(number), due == 0 ? CordBoard.TALKING : CordBoard.WAITING);
        Checks.same("obstacle after " + script, board.obstacle(number), due);
    }

    /** "A call can start if the line of the caller is not busy" */
    private static void callsNeedTheCallersLine() {
        obstacleIs("call a g;call a b;", 1, 1);
        obstacleIs("call a g;trunk a 0;", 1, 1);
        obstacleIs("call b a;call g c;", 1, 1);
        obstacleIs("trunk a 0;call g a;", 1, 1);
        obstacleIs("call b c;call a g;", 1, 0);
    }

    /** "the line of the other subscriber .. is not busy" */
    private static void callsNeedTheOtherLine() {
        obstacleIs("call a g;call b a;", 1, 2);
        obstacleIs("call b c;call d c;", 1, 2);
        obstacleIs("trunk b 0;call c b;", 1, 2);
        obstacleIs("call b c;call d e;", 1, 0);
    }

    /** ".. or the trunk is not busy" */
    private static void callsNeedTheTrunk() {
        obstacleIs("trunk a 0;trunk b 0;", 1, 2);
        obstacleIs("trunk a 0;trunk b 1;", 1, 0);
        obstacleIs("trunk a 0;end 0;trunk b 0;", 1, 0);
    }

    /** "a cord is free if the call uses one" */
    private static void callsNeedACord() {
        obstacleIs("call a b;call c d;", 1, 0);
        obstacleIs("call a b;call c d;call e f;", 2, 3);
        obstacleIs("call a b;call c d;trunk e 0;", 2, 3);
        obstacleIs("trunk a 0;trunk b 1;call c d;", 2, 3);
        obstacleIs("call a b;call c d;end 0;call e f;", 2, 0);
    }

    /** ".. if the call uses one" */
    private static void callsOnOneLineNeedNoCord() {
        obstacleIs("call b c;call d e;call a g;", 2, 0);
        obstacleIs("call a g;call b c;call d e;", 2, 0);
    }

    /** "A requested call starts at once if it can; otherwise it waits. (So it may start before calls that are waiting.)" */
    private static void requestedCallsMayPassWaitingOnes() {
        CordBoard board = Checks.played(SIX, "call a b;call c a urgent;wait 9;call c d;");
        Checks.same("the urgent call waits", board.callState(1), CordBoard.WAITING);
        Checks.same("the later call talks", board.callState(2), CordBoard.TALKING);
        Checks.same("from its request on", board.startTime(2), 9);
        Checks.same("now the caller's line is busy", board.obstacle(1), 1);
    }

    /** "When a call has ended .. each of them that can start at that moment starts." */
    private static void waitingCallsStartWhenOneEnds() {
        CordBoard board = Checks.played(SIX, "call a b;call c a;call d b;wait 30;");
        Checks.same("two start", board.end(0), 2);
        Checks.same("call 1", board.startTime(1), 30);
        Checks.same("call 2", board.startTime(2), 30);
        Checks.same("one more cannot", busyThings(board), "L0 L1 L2 L3 cords 0");
        CordBoard none = Checks.played(SIX, "call a b;");
        Checks.same("none waits", none.end(0), 0);
        // Each of the two lines that become free takes a call, though there is a single cord.
        String setup = "board 6 1;user a 0 s 0;user b 1 s 0;user c 1 l 0;user d 0 l 0;user e 2 s 0;user f 2 l 0;";
        CordBoard cord = Checks.played(setup, "call a b;call a d;call b c;call e f;call f a;");
        Checks.same("both lines", cord.end(0), 2);
        Checks.same("the call on line 2 goes on", cord.callState(3), CordBoard.TALKING);
        Checks.same("the call to line 0 waits", cord.callState(4), CordBoard.WAITING);
    }

    /** "the urgent ones first, and for equal urgency in ascending order of their numbers" */
    private static void urgentCallsAreLookedAtFirst() {
        CordBoard board = Checks.played(LINE, "call a b;call a c;call b c urgent;call b a;call c a urgent;call c b;");
        int[] order = {0, 2, 4, 1, 3, 5};
        for (int place = 0; place < order.length; place++) {
            Checks.same("call " + order[place] + " talks", board.callState(order[place]), CordBoard.TALKING);
            Checks.same("alone", board.talkingCalls(), 1);
            Checks.same("its end starts", board.end(order[place]), place < 5 ? 1 : 0);
        }
        // The first and the last number: an urgent call 39 goes before a call 1.
        CordBoard full = Checks.withCalls(39);
        full.call(1, 0, true);
        full.end(0);
        Checks.same("call 39", full.callState(39), CordBoard.TALKING);
        full.end(39);
        Checks.same("call 1", full.callState(1), CordBoard.TALKING);
    }

    /** "each of them that can start at that moment starts" */
    private static void callsThatCannotStartAreLeftOut() {
        CordBoard board = Checks.played(SIX, "call c d;call a b;call a c urgent;call b a;");
        Checks.same("end", board.end(1), 1);
        Checks.same("the urgent one waits on", board.callState(2), CordBoard.WAITING);
        Checks.same("the other one starts", board.callState(3), CordBoard.TALKING);
    }

    /** "the waiting calls are looked at one after another" */
    private static void startedCallsKeepLaterOnesWaiting() {
        CordBoard board = Checks.played(SIX, "call a b;call c a;call a d;call d b;call e f;");
        Checks.same("end", board.end(0), 1);
        Checks.same("call 1 has line 0", board.callState(1), CordBoard.TALKING);
        Checks.same("call 2 has not", board.obstacle(2), 1);
        Checks.same("call 4 has the last cord", board.obstacle(3), 3);
    }

    /** "(A waiting call can never start now, or it would have started.)" So the end of a waiting call starts none. */
    private static void cancelledCallsStartNone() {
        CordBoard board = Checks.played(SIX, "call a b;call a c urgent;call a c;");
        Checks.same("forecast", board.startsIfEnded(1), 0);
        Checks.same("cancel", board.end(1), 0);
        Checks.same("it is cancelled", board.callState(1), CordBoard.CANCELLED);
        Checks.same("the next waits on", board.callState(2), CordBoard.WAITING);
        board.end(0);
        Checks.same("a cancelled call never starts", board.callState(1), CordBoard.CANCELLED);
        Checks.same("the next starts", board.callState(2), CordBoard.TALKING);
    }

    // ---- listening

    /** "all other subscribers of the lines that it uses with a curiosity of 5 or more listen in" */
    private static void fiveIsCuriousEnough() {
        for (int curiosity = 0; curiosity <= 9; curiosity++) {
            CordBoard board = Checks.played("board 1 1;user a 0 s 0;user b 0 ls 0;user c 0 ll " + curiosity + ";",
                    "call a b;");
            Checks.same("listeners of curiosity " + curiosity, board.listeners(0), curiosity < 5 ? 0 : 4);
        }
    }

    /** "all other subscribers" */
    private static void callerAndOtherDoNotListen() {
        CordBoard crowd = Checks.played(Checks.crowd(15, 1, 9), "call pc pn;");
        Checks.same("all but the two", crowd.listeners(0), 0x7fff & ~(1 << 2) & ~(1 << 13));
        CordBoard pair = Checks.played(Checks.crowd(2, 1, 9), "call pb pa;");
        Checks.same("there is no other", pair.listeners(0), 0);
    }

    /** "of the lines that it uses" */
    private static void onlyTheLinesInUseAreHeard() {
        String setup = "board 6 6;trunk 1;user a 0 s 9;user b 0 l 9;user c 1 s 9;user d 1 l 9;user e 2 s 9;user f 5 s 9;";
        Checks.same("a and b", Checks.played(setup, "call a b;").listeners(0), 0);
        Checks.same("a and c", Checks.played(setup, "call a c;").listeners(0), 2 + 8);
        Checks.same("d and f", Checks.played(setup, "call d f;").listeners(0), 4);
        Checks.same("e and f", Checks.played(setup, "call e f;").listeners(0), 0);
        Checks.same("b to the trunk", Checks.played(setup, "trunk b 0;").listeners(0), 1);
        Checks.same("f to the trunk", Checks.played(setup, "trunk f 0;").listeners(0), 0);
        // Those of another talking call do not listen to this one.
        Checks.same("two calls", Checks.played(setup, "call c d;call a e;").listeners(1), 2);
    }

    /** "When a call starts .." */
    private static void listenersAreThoseOfTheStart() {
        CordBoard board = Checks.played(LINE, "call a b;mood c 4;call a b;mood c 5;call a b;");
        Checks.same("none at the start", board.listeners(0), 0);
        board.end(0);
        Checks.same("curious when the second one starts", board.listeners(1), 4);
        Checks.same("its volume", board.volume(1), 90);
        board.setCuriosity(2, 4);
        Checks.same("it stays so", board.listeners(1), 4);
        board.end(1);
        Checks.same("not curious when the third one starts", board.listeners(2), 0);
        Checks.same("its volume", board.volume(2), 100);
    }

    /** "the volume decreases by (volume + 9) / 10, rounded down" */
    private static void volumeForEachNumberOfListeners() {
        int[] volumes = {100, 90, 81, 72, 64, 57, 51, 45, 40, 36, 32, 28, 25, 22, 19};
        for (int listeners = 0; listeners <= 13; listeners++) {
            CordBoard board = Checks.played(Checks.crowd(2 + listeners, 1, 5), "call pa pb;");
            Checks.same("volume with " + listeners, board.volume(0), volumes[listeners]);
        }
        for (int listeners = 0; listeners <= 14; listeners++) {
            CordBoard board = Checks.loaded(Checks.crowd(1 + listeners, 1, 5).replace("6;", "6;trunk 1;"));
            board.callTrunk(listeners, 0, false);
            Checks.same("volume to a trunk with " + listeners, board.volume(0), volumes[listeners]);
        }
    }

    /** "both know all secrets afterwards that one of them knew before" */
    private static void bothKnowAllSecrets() {
        CordBoard board = Checks.played(Checks.crowd(4, 4, 0), "call pa pb;end 0;call pc pd;end 1;call pb pc;");
        int[] known = {3, 15, 15, 12};
        for (int user = 0; user < known.length; user++) {
            Checks.same("secrets of " + user, board.secretsKnown(user), known[user]);
        }
    }

    /** "In a call to a trunk, the caller tells all secrets that the caller knows, and learns none." */
    private static void trunksTellNothing() {
        String setup = "board 2 2;trunk 1;user a 0 s 0;user b 0 ls 5;user c 0 ll 4;user d 1 s 0;";
        CordBoard board = Checks.played(setup, "mood b 4;call a d;end 0;mood b 5;trunk a 0;");
        int[] known = {9, 11, 4, 9};
        for (int user = 0; user < known.length; user++) {
            Checks.same("secrets of " + user, board.secretsKnown(user), known[user]);
        }
    }

    /** "Each listener learns all secrets that are told" */
    private static void listenersLearnWhatIsTold() {
        String setup = "board 2 2;user a 0 s 0;user b 0 ls 5;user c 0 lll 5;user d 1 s 0;user e 1 l 9;user f 0 lls 4;";
        CordBoard board = Checks.played(setup, "call a d;");
        // Listeners do not tell theirs, neither to the two nor to each other.
        int[] known = {9, 11, 13, 9, 25, 32};
        for (int user = 0; user < known.length; user++) {
            Checks.same("secrets of " + user, board.secretsKnown(user), known[user]);
        }
    }

    /** "At the same moment, secrets are told." */
    private static void secretsAreToldAtTheStart() {
        CordBoard board = Checks.played(Checks.crowd(3, 3, 0), "call pa pb;call pb pc;");
        Checks.same("told at once", board.secretsKnown(0), 3);
        Checks.same("a waiting call tells none", board.secretsKnown(2), 4);
        board.end(0);
        Checks.same("what is known when it starts", board.secretsKnown(2), 7);
        Checks.same("an end tells none", board.secretsKnown(0), 3);
        board.end(1);
        Checks.same("nor does the next", board.secretsKnown(0), 3);
    }

    /** "all secrets .. that one of them knew before", up to all 15 */
    private static void secretsGoOnFromCallToCall() {
        CordBoard board = Checks.loaded(Checks.crowd(15, 1, 0));
        for (int user = 0; user < 14; user++) {
            board.call(user, user + 1, false);
            board.end(user);
            Checks.same("secrets of the other", board.secretsKnown(user + 1), (1 << user + 2) - 1);
        }
        Checks.same("all", board.secretsKnown(14), 0x7fff);
    }

    // ---- bills

    /** "A call to a subscriber costs 5 cents" */
    private static void callsToSubscribersCostFiveCents() {
        for (int seconds : new int[] {0, 1, 60, 61, 9999}) {
            CordBoard board = new CordBoard();
            board.call(Checks.FAY, Checks.DOT, true);
            pass(board, seconds);
            board.end(0);
            Checks.same("the bill of the caller", board.bill(Checks.FAY), 5);
            Checks.same("the bill of the other", board.bill(Checks.DOT), 0);
        }
        CordBoard local = Checks.played(LINE, "call a b;end 0;");
        Checks.same("on one line too", local.bill(0), 5);
    }

    private static void pass(CordBoard board, int seconds) {
        if (seconds > 0) {
            board.waitFor(seconds);
        }
    }

    /** "the toll for each minute (60 seconds) that was begun, but at least for one minute; so 60 seconds are one" */
    private static void callsToTrunksCostEachMinute() {
        int[] seconds = {0, 1, 59, 60, 61, 119, 120, 121, 9960, 9961, 9999};
        int[] minutes = {1, 1, 1, 1, 2, 2, 2, 3, 166, 167, 167};
        for (int index = 0; index < seconds.length; index++) {
            for (int before : new int[] {0, 59}) {
                CordBoard board = Checks.loaded("board 1 1;trunk 1;trunk 99;user a 0 s 0;user b 0 l 0;");
                pass(board, before);
                board.callTrunk(1, 1, false);
                pass(board, seconds[index]);
                Checks.same("the charge of " + seconds[index], board.charge(0), 99 * minutes[index]);
                board.end(0);
                Checks.same("the bill of " + seconds[index], board.bill(1), 99 * minutes[index]);
                Checks.same("the bill of another", board.bill(0), 0);
            }
        }
        // The minutes count from the start, not from the request.
        CordBoard waiting = Checks.played("board 1 1;trunk 7;user a 0 s 0;user b 0 l 0;",
                "call a b;trunk b 0;wait 500;end 0;wait 60;end 1;");
        Checks.same("the bill after waiting", waiting.bill(1), 7);
    }

    /** The longest call: from the clock's begin to its end. */
    private static void longestAndDearestCall() {
        CordBoard board = Checks.loaded("board 1 1;trunk 99;user a 0 s 0;");
        board.callTrunk(0, 0, false);
        for (int count = 0; count < 100; count++) {
            board.waitFor(9999);
        }
        board.waitFor(99);
        Checks.same("the clock", board.clock(), 999999);
        Checks.same("the charge", board.charge(0), 16667 * 99);
        board.end(0);
        Checks.same("the bill", board.bill(0), 16667 * 99);
    }

    /** "When a talking call ends, its charge is added to the bill of the caller." */
    private static void billsGrowAtTheEnd() {
        CordBoard board = Checks.played(LINE, "call a b;wait 5;");
        Checks.same("while it goes on", board.bill(0), 0);
        board.end(0);
        Checks.same("after its end", board.bill(0), 5);
        board.call(0, 2, false);
        board.end(1);
        Checks.same("it is added", board.bill(0), 10);
        Checks.same("others pay nothing", board.bill(1) + board.bill(2), 0);
    }

    /** "A waiting call that is cancelled costs nothing." */
    private static void cancelledCallsCostNothing() {
        CordBoard board = Checks.played("board 1 1;trunk 9;user a 0 s 0;user b 0 l 0;",
                "call a b;trunk b 0;call b a;wait 100;end 1;end 2;");
        Checks.same("bills", board.bill(0) + board.bill(1), 0);
        Checks.same("charges", board.charge(1) + board.charge(2), 0);
    }
}
