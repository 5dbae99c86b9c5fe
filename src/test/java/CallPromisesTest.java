/** Promises 40 to 54: what the board tells of calls, and its forecasts. */
public final class CallPromisesTest {
    private static final String SIX = "board 6 2;trunk 5;trunk 6;user a 0 s 0;user b 1 s 0;user c 2 s 0;user d 3 s 0;"
            + "user e 4 s 0;user f 5 s 0;user g 0 l 0;";

    private CallPromisesTest() {
    }

    public static void main(String[] args) {
        promise40CallState();
        promise41CallerOf();
        promise42CalledSubscriber();
        promise43CalledTrunk();
        promise44StartTime();
        promise45EndTime();
        promise46Listeners();
        promise47Volume();
        promise48Charge();
        promise48ChargeOfATrunk();
        promise49Obstacle();
        promise49FirstReason();
        promise49NotWaiting();
        promise50QueuePlace();
        promise50FortyCalls();
        promise51IsUrgent();
        promise52ListenersBetween();
        promise52ForecastComesTrue();
        promise52Refused();
        promise53StartsIfEnded();
        promise53ForecastComesTrue();
        promise53NothingChanges();
        promise54QuietestCall();
        promise54JustOneSubscriber();
        promise54Refused();
        promises40To53Refused();
        firstAndLastCall();
        Checks.end();
    }

    /** Mostly of Checks.used(): call 0 is ended, 1 talks to a trunk, 2 is cancelled, 3 waits for the trunk. */
    private static void answers(String what, int[] got, int[] due) {
        for (int number = 0; number < due.length; number++) {
            Checks.same(what + " of call " + number, got[number], due[number]);
        }
    }

    private static void promise40CallState() {
        CordBoard board = Checks.used();
        answers("callState", new int[] {board.callState(0), board.callState(1), board.callState(2), board.callState(3)},
                new int[] {CordBoard.ENDED, CordBoard.TALKING, CordBoard.CANCELLED, CordBoard.WAITING});
    }

    private static void promise41CallerOf() {
        CordBoard board = Checks.used();
        answers("callerOf", new int[] {board.callerOf(0), board.callerOf(1), board.callerOf(2), board.callerOf(3)},
                new int[] {Checks.ANN, Checks.BEA, Checks.CAL, Checks.CAL});
    }

    /** "NONE for a call to a trunk" */
    private static void promise42CalledSubscriber() {
        CordBoard board = Checks.used();
        answers("calledSubscriber", new int[] {board.calledSubscriber(0), board.calledSubscriber(1),
            board.calledSubscriber(2), board.calledSubscriber(3)},
                new int[] {Checks.DOT, CordBoard.NONE, Checks.FAY, CordBoard.NONE});
        Checks.same("the first subscriber", Checks.played(SIX, "call b a;").calledSubscriber(0), 0);
        Checks.same("the last subscriber", Checks.played(SIX, "call b g;").calledSubscriber(0), 6);
    }

    /** "NONE for a call to a subscriber" */
    private static void promise43CalledTrunk() {
        CordBoard board = Checks.used();
        answers("calledTrunk", new int[] {board.calledTrunk(0), board.calledTrunk(1), board.calledTrunk(2),
            board.calledTrunk(3)}, new int[] {CordBoard.NONE, 0, CordBoard.NONE, 0});
        Checks.same("trunk 1", Checks.played(SIX, "trunk b 1;").calledTrunk(0), 1);
    }

    /** "NONE if it has not started" */
    private static void promise44StartTime() {
        CordBoard board = Checks.used();
        answers("startTime", new int[] {board.startTime(0), board.startTime(1), board.startTime(2), board.startTime(3)},
                new int[] {0, 15, CordBoard.NONE, CordBoard.NONE});
        CordBoard late = Checks.late(999999);
        late.call(Checks.ANN, Checks.DOT, false);
        Checks.same("the last second", late.startTime(0), 999999);
        late.end(0);
        Checks.same("it stays", late.startTime(0), 999999);
    }

    /** "NONE if it is waiting or talking" */
    private static void promise45EndTime() {
        CordBoard board = Checks.used();
        answers("endTime", new int[] {board.endTime(0), board.endTime(1), board.endTime(2), board.endTime(3)},
                new int[] {15, CordBoard.NONE, 10, CordBoard.NONE});
        CordBoard first = Checks.played(SIX, "call a b;call a b;end 1;end 0;");
        Checks.same("ended at 0", first.endTime(0), 0);
        Checks.same("cancelled at 0", first.endTime(1), 0);
        CordBoard late = Checks.late(999999);
        late.call(Checks.ANN, Checks.DOT, false);
        late.end(0);
        Checks.same("the last second", late.endTime(0), 999999);
    }

    /** "0 if it has not started" */
    private static void promise46Listeners() {
        CordBoard board = Checks.used();
        answers("listeners", new int[] {board.listeners(0), board.listeners(1), board.listeners(2), board.listeners(3)},
                new int[] {1 << Checks.BEA | 1 << Checks.CAL | 1 << Checks.EVE, 1 << Checks.CAL, 0, 0});
        CordBoard edge = Checks.played("board 1 1;user a 0 s 9;user b 0 ls 9;user c 0 lls 4;user d 0 llls 5;", "call a b;");
        Checks.same("4 does not listen, 5 does", edge.listeners(0), 8);
        CordBoard crowd = Checks.played(Checks.crowd(15, 1, 5), "call pb pc;");
        Checks.same("the first and the last", crowd.listeners(0), 0x7ff9);
    }

    /** "100 if it has not started" */
    private static void promise47Volume() {
        CordBoard board = Checks.used();
        answers("volume", new int[] {board.volume(0), board.volume(1), board.volume(2), board.volume(3)},
                new int[] {72, 90, 100, 100});
        Checks.same("without listeners", Checks.played(SIX, "call a b;").volume(0), 100);
        Checks.same("with 13", Checks.played(Checks.crowd(15, 1, 5), "call pb pc;").volume(0), 22);
        CordBoard all = Checks.loaded("board 1 1;trunk 1;" + Checks.crowd(15, 1, 5).substring(10));
        all.callTrunk(7, 0, false);
        Checks.same("with 14", all.volume(0), 19);
    }

    /** "0 for a waiting and a cancelled call" */
    private static void promise48Charge() {
        CordBoard board = Checks.used();
        answers("charge", new int[] {board.charge(0), board.charge(1), board.charge(2), board.charge(3)},
                new int[] {5, 40, 0, 0});
        board.waitFor(9999);
        answers("later", new int[] {board.charge(0), board.charge(2), board.charge(3)}, new int[] {5, 0, 0});
        Checks.same("a call to a subscriber at once", Checks.played(SIX, "call a b;").charge(0), 5);
    }

    /** "what a call would cost if it ended now, or what it has cost" */
    private static void promise48ChargeOfATrunk() {
        int[] seconds = {1, 59, 60, 61, 119, 120, 121, 9999};
        int[] charges = {20, 20, 20, 40, 40, 40, 60, 3340};
        Checks.same("at once", Checks.played(Checks.SETUP, "trunk ann 0;").charge(0), 20);
        for (int index = 0; index < seconds.length; index++) {
            CordBoard board = Checks.played(Checks.SETUP, "wait 59;trunk ann 0;wait " + seconds[index] + ";");
            Checks.same("after " + seconds[index], board.charge(0), charges[index]);
            board.end(0);
            Checks.same("at its end", board.charge(0), charges[index]);
            board.waitFor(1000);
            Checks.same("after its end", board.charge(0), charges[index]);
        }
    }

    private static void promise49Obstacle() {
        CordBoard board = Checks.played(SIX, "call a b;trunk c 0;call a d;call d b;trunk d 0;trunk d 1;call e f;call a b;"
                + "trunk c 0;call g a;");
        int[] obstacles = {0, 0, 1, 2, 2, 3, 3, 1, 1, 1};
        for (int number = 0; number < obstacles.length; number++) {
            Checks.same("obstacle(" + number + ")", board.obstacle(number), obstacles[number]);
        }
        board.end(1);
        Checks.same("trunk 0 is taken by 4", board.obstacle(4), 0);
        Checks.same("no cord for 6", board.obstacle(6), 3);
    }

    /** "The first reason that applies is returned." */
    private static void promise49FirstReason() {
        CordBoard all = Checks.played("board 3 1;trunk 1;user a 0 s 0;user b 1 s 0;user c 2 s 0;",
                "call a b;call a b;call b a;call c a;call a c;trunk c 0;trunk a 0;");
        int[] obstacles = {0, 1, 1, 2, 1, 3, 1};
        for (int number = 0; number < obstacles.length; number++) {
            Checks.same("obstacle(" + number + ")", all.obstacle(number), obstacles[number]);
        }
        CordBoard trunk = Checks.played("board 3 1;trunk 1;user a 0 s 0;user b 1 s 0;user c 2 s 0;", "trunk a 0;trunk c 0;");
        Checks.same("the trunk before the cord", trunk.obstacle(1), 2);
    }

    /** "0 if it is not waiting" */
    private static void promise49NotWaiting() {
        CordBoard board = Checks.played(SIX, "call a b;call a c;call b a;end 1;end 0;call a b;");
        Checks.same("an ended call", board.obstacle(0), 0);
        Checks.same("a cancelled call", board.obstacle(1), 0);
        Checks.same("a talking call", board.obstacle(2), 0);
        Checks.same("a waiting call", board.obstacle(3), 1);
    }

    /** "the number of waiting calls before it; NONE if it is not waiting" */
    private static void promise50QueuePlace() {
        CordBoard board = Checks.played(Checks.PAIR, "call a b urgent;call a b;call a b urgent;call a b;call a b urgent;");
        int[] places = {CordBoard.NONE, 2, 0, 3, 1};
        for (int number = 0; number < places.length; number++) {
            Checks.same("queuePlace(" + number + ")", board.queuePlace(number), places[number]);
        }
        board.end(2);
        Checks.same("a cancelled call", board.queuePlace(2), CordBoard.NONE);
        Checks.same("the first now", board.queuePlace(4), 0);
        Checks.same("the last now", board.queuePlace(3), 2);
        board.end(0);
        Checks.same("an ended call", board.queuePlace(0), CordBoard.NONE);
        Checks.same("a talking call", board.queuePlace(4), CordBoard.NONE);
        Checks.same("the first of those that are not urgent", board.queuePlace(1), 0);
    }

    private static void promise50FortyCalls() {
        CordBoard board = Checks.withCalls(39);
        board.call(1, 0, true);
        Checks.same("the urgent one", board.queuePlace(39), 0);
        for (int number = 1; number < 39; number++) {
            Checks.same("behind it", board.queuePlace(number), number);
        }
        Checks.same("the last of forty", Checks.withCalls(40).queuePlace(39), 38);
    }

    private static void promise51IsUrgent() {
        CordBoard board = Checks.used();
        boolean[] urgent = {false, true, true, false};
        for (int number = 0; number < urgent.length; number++) {
            Checks.yes("isUrgent of " + number, board.isUrgent(number) == urgent[number]);
        }
    }

    private static void promise52ListenersBetween() {
        CordBoard board = new CordBoard();
        Checks.same("ann and dot", board.listenersBetween(Checks.ANN, Checks.DOT), 22);
        Checks.same("dot and ann", board.listenersBetween(Checks.DOT, Checks.ANN), 22);
        Checks.same("bea and cal", board.listenersBetween(Checks.BEA, Checks.CAL), 0);
        Checks.same("cal and eve", board.listenersBetween(Checks.CAL, Checks.EVE), 2);
        Checks.same("fay and eve", board.listenersBetween(Checks.FAY, Checks.EVE), 0);
        board.call(Checks.ANN, Checks.DOT, false);
        Checks.same("busy lines do not matter", board.listenersBetween(Checks.ANN, Checks.DOT), 22);
        board.setCuriosity(Checks.ANN, 5);
        Checks.same("bea and cal now", board.listenersBetween(Checks.BEA, Checks.CAL), 1);
        board.setCuriosity(Checks.ANN, 4);
        Checks.same("and now", board.listenersBetween(Checks.BEA, Checks.CAL), 0);
        CordBoard crowd = Checks.loaded(Checks.crowd(15, 1, 5));
        Checks.same("the first and the last", crowd.listenersBetween(0, 14), 0x3ffe);
        Checks.same("the last and the first", crowd.listenersBetween(14, 0), 0x3ffe);
    }

    private static void promise52ForecastComesTrue() {
        for (int caller = 0; caller < 6; caller++) {
            for (int other = 0; other < 6; other++) {
                if (caller != other) {
                    CordBoard board = new CordBoard();
                    int due = board.listenersBetween(caller, other);
                    board.call(caller, other, false);
                    Checks.same("listeners", board.listeners(0), due);
                }
            }
        }
    }

    private static void promise52Refused() {
        for (int wrong : new int[] {-1, 6, 7, 15, 32, Checks.MIN, Checks.MAX}) {
            Checks.noIndex(Checks::used, "listenersBetween(" + wrong + ", 0)", board -> board.listenersBetween(wrong, 0));
            Checks.noIndex(Checks::used, "listenersBetween(0, " + wrong + ")", board -> board.listenersBetween(0, wrong));
            Checks.noIndex(Checks::used, "listenersBetween twice", board -> board.listenersBetween(wrong, wrong));
        }
        Checks.noArgument(Checks::used, "listenersBetween(0, 0)", board -> board.listenersBetween(0, 0));
        Checks.noArgument(Checks::used, "listenersBetween(5, 5)", board -> board.listenersBetween(5, 5));
    }

    /** "0 if it is ended or cancelled" */
    private static void promise53StartsIfEnded() {
        CordBoard board = Checks.played("board 4 2;user a 0 s 0;user b 1 s 0;user c 2 s 0;user d 3 s 0;user e 0 l 0;"
                + "user f 1 l 0;", "call a b;call a e;call b f urgent;call a c;call c d;");
        Checks.same("two would start", board.startsIfEnded(0), 2);
        Checks.same("none would start", board.startsIfEnded(4), 0);
        Checks.same("none for a waiting call", board.startsIfEnded(1), 0);
        Checks.same("it comes true", board.end(0), 2);
        Checks.same("an ended call", board.startsIfEnded(0), 0);
        board.end(3);
        Checks.same("a cancelled call", board.startsIfEnded(3), 0);
        Checks.same("the last call that talks alone", Checks.withCalls(1).startsIfEnded(0), 0);
        Checks.same("one of forty", Checks.withCalls(40).startsIfEnded(0), 1);
        Checks.same("the last of forty", Checks.withCalls(40).startsIfEnded(39), 0);
    }

    private static void promise53ForecastComesTrue() {
        String script = "call a b;call c a;call a g urgent;trunk d 1;trunk e 1;call e f;call b c;";
        for (int number = 0; number < 7; number++) {
            CordBoard board = Checks.played(SIX, script);
            int due = board.startsIfEnded(number);
            Checks.same("end(" + number + ")", board.end(number), due);
        }
        Checks.same("ended by 0", Checks.played(SIX, script).startsIfEnded(0), 2);
        Checks.same("ended by 3", Checks.played(SIX, script).startsIfEnded(3), 1);
    }

    private static void promise53NothingChanges() {
        for (int number = 0; number < 4; number++) {
            int call = number;
            Checks.onlyAsks(Checks::used, "startsIfEnded(" + number + ")", board -> board.startsIfEnded(call));
        }
    }

    /** "a tie goes to the lowest number" */
    private static void promise54QuietestCall() {
        CordBoard board = new CordBoard();
        Checks.same("a tie goes to bea", board.quietestCall(Checks.ANN), Checks.BEA);
        Checks.same("from bea", board.quietestCall(Checks.BEA), Checks.CAL);
        Checks.same("from cal", board.quietestCall(Checks.CAL), Checks.BEA);
        Checks.same("from dot", board.quietestCall(Checks.DOT), Checks.EVE);
        Checks.same("from eve", board.quietestCall(Checks.EVE), Checks.DOT);
        Checks.same("from fay", board.quietestCall(Checks.FAY), Checks.EVE);
        board.setCuriosity(Checks.DOT, 5);
        Checks.same("a tie of four", board.quietestCall(Checks.FAY), Checks.BEA);
        CordBoard crowd = Checks.loaded(Checks.crowd(15, 1, 9));
        Checks.same("a tie of all from 0", crowd.quietestCall(0), 1);
        Checks.same("a tie of all from 14", crowd.quietestCall(14), 0);
        CordBoard loud = Checks.loaded("board 2 1;user a 0 s 9;user b 0 ls 9;user c 0 ll 9;user d 1 s 0;");
        Checks.same("the loudest call of all is the only one", loud.quietestCall(3), 0);
        CordBoard busy = Checks.played(Checks.SETUP, "call ann bea;");
        Checks.same("busy lines do not matter", busy.quietestCall(Checks.ANN), Checks.BEA);
    }

    /** "NONE if there is just one subscriber" */
    private static void promise54JustOneSubscriber() {
        Checks.same("one", Checks.loaded("board 1 1;user a 0 s 9;").quietestCall(0), CordBoard.NONE);
        CordBoard two = Checks.loaded("board 1 1;user a 0 s 9;user b 0 l 9;");
        Checks.same("the first of two", two.quietestCall(0), 1);
        Checks.same("the second of two", two.quietestCall(1), 0);
    }

    private static void promise54Refused() {
        for (int wrong : new int[] {-1, 6, 7, 15, 32, Checks.MIN, Checks.MAX}) {
            Checks.noIndex(Checks::used, "quietestCall(" + wrong + ")", board -> board.quietestCall(wrong));
        }
        Checks.noIndex(() -> Checks.loaded("board 1 1;user a 0 s 9;"), "quietestCall(1)", board -> board.quietestCall(1));
    }

    private static void promises40To53Refused() {
        for (int wrong : new int[] {-1, 4, 5, 39, 40, Checks.MIN, Checks.MAX}) {
            refuses(Checks::used, wrong);
        }
        refuses(CordBoard::new, 0);
        refuses(() -> Checks.withCalls(39), 39);
        refuses(() -> Checks.withCalls(40), 40);
    }

    private static void refuses(Checks.Maker maker, int wrong) {
        Checks.noIndex(maker, "callState(" + wrong + ")", board -> board.callState(wrong));
        Checks.noIndex(maker, "callerOf(" + wrong + ")", board -> board.callerOf(wrong));
        Checks.noIndex(maker, "calledSubscriber(" + wrong + ")", board -> board.calledSubscriber(wrong));
        Checks.noIndex(maker, "calledTrunk(" + wrong + ")", board -> board.calledTrunk(wrong));
        Checks.noIndex(maker, "startTime(" + wrong + ")", board -> board.startTime(wrong));
        Checks.noIndex(maker, "endTime(" + wrong + ")", board -> board.endTime(wrong));
        Checks.noIndex(maker, "listeners(" + wrong + ")", board -> board.listeners(wrong));
        Checks.noIndex(maker, "volume(" + wrong + ")", board -> board.volume(wrong));
        Checks.noIndex(maker, "charge(" + wrong + ")", board -> board.charge(wrong));
        Checks.noIndex(maker, "obstacle(" + wrong + ")", board -> board.obstacle(wrong));
        Checks.noIndex(maker, "queuePlace(" + wrong + ")", board -> board.queuePlace(wrong));
        Checks.noIndex(maker, "isUrgent(" + wrong + ")", board -> board.isUrgent(wrong));
        Checks.noIndex(maker, "startsIfEnded(" + wrong + ")", board -> board.startsIfEnded(wrong));
    }

    /** Each of the calls that there may be answers. */
    private static void firstAndLastCall() {
        CordBoard board = Checks.withCalls(40);
        for (int number : new int[] {0, 39}) {
            boolean isFirst = number == 0;
            Checks.same("callState", board.callState(number), isFirst ? CordBoard.TALKING : CordBoard.WAITING);
            Checks.same("callerOf", board.callerOf(number), 0);
            Checks.same("calledSubscriber", board.calledSubscriber(number), 1);
            Checks.same("calledTrunk", board.calledTrunk(number), CordBoard.NONE);
            Checks.same("startTime", board.startTime(number), isFirst ? 0 : CordBoard.NONE);
            Checks.same("endTime", board.endTime(number), CordBoard.NONE);
            Checks.same("listeners", board.listeners(number), 0);
            Checks.same("volume", board.volume(number), 100);
            Checks.same("charge", board.charge(number), isFirst ? 5 : 0);
            Checks.same("obstacle", board.obstacle(number), isFirst ? 0 : 1);
            Checks.same("queuePlace", board.queuePlace(number), isFirst ? CordBoard.NONE : 38);
            Checks.yes("isUrgent", !board.isUrgent(number));
        }
    }
}
