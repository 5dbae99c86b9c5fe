/** The part 5 of the terms, sentence by sentence: the texts, their tokens and their errors. */
public final class TermsTextTest {
    private static final String HEAD = "board 2 1;user a 0 s 5;";

    private TermsTextTest() {
    }

    public static void main(String[] args) {
        bufferHoldsSevenHundredBytes();
        textsMayFillTheBuffer();
        setupsAreBoardTrunksUsersCommands();
        trunksMayBeLeftOut();
        oneUserIsNeeded();
        commandsMayBeLeftOut();
        eachCommandHasItsForm();
        urgentMayBeLeftOut();
        ringsAreLettersSAndL();
        bytesOfTokens();
        leadingZerosDoNotMatter();
        longNumbersAreOutOfRange();
        spacesMayStandAroundTokens();
        spacesAreNeededBetweenLikeTokens();
        namesHaveOneToSixLetters();
        keywordsMayBeNames();
        commandsAreExecutedAtTheirSemicolon();
        parsingStopsAtTheFirstWrongToken();
        offsetOfTextsThatEndTooEarly();
        lowestCodeIsReported();
        code1InSetups();
        code1InScripts();
        code2InSetups();
        code2InScripts();
        code3UnknownName();
        code4DuplicateName();
        code5Ambiguous();
        code6TooMany();
        code7Over();
        Checks.end();
    }

    private static CordBoard pair() {
        return Checks.loaded(Checks.PAIR);
    }

    private static void scriptFails(String text, int code, int offset) {
        Checks.playFails(TermsTextTest::pair, text, code, offset);
    }

    private static void scriptIsFine(String text, int commands) {
        Checks.plays(TermsTextTest::pair, text, commands);
    }

    /** Puts spaces behind the text, up to 700 bytes with what stands at its end. */
    private static String wide(String text, String end) {
        return text + Checks.repeat(" ", 700 - text.length() - end.length()) + end;
    }

    // ---- the buffer

    /** "The input buffer holds at most 700 bytes." */
    private static void bufferHoldsSevenHundredBytes() {
        CordBoard board = new CordBoard();
        for (int length = 20; length <= 700; length += 20) {
            Checks.same("append", board.append(0, 0, 0, 0, 0), length);
        }
        Checks.same("append to 700", board.append(0, 0, 0, 0, 0), CordBoard.NONE);
        Checks.same("the length", board.truncateInput(700), 700);
    }

    /** Texts of 700 bytes are read to their last byte. */
    private static void textsMayFillTheBuffer() {
        Checks.loads(wide("board 1 1;user a 0 s 5", ";"), 1);
        Checks.loads(wide("board 1 1;user a 0 s 5;", ""), 1);
        Checks.loadFails(wide("board 1 1;user a 0 s 5", ""), 1, 700);
        Checks.loadFails(wide("board 1 1;user a 0 s 5;", "$"), 1, 699);
        Checks.loadFails(wide("board 1 1;user a 0 s 5;", "wait"), 1, 700);
        Checks.loadFails(wide("board 1 1;user a 0 s 5;wait", "5"), 1, 700);
        scriptIsFine(wide("wait 5;wait 5", ";"), 2);
        scriptIsFine(Checks.repeat("wait1;", 116) + "    ", 116);
        scriptIsFine(Checks.repeat("wait 1;", 100), 100);
        scriptFails(Checks.repeat("wait 1;", 99) + "wait 1 ", 1, 700);
        scriptFails(wide("wait 5;", "wait"), 1, 700);
        scriptFails(wide("wait 5;", "end"), 1, 700);
        scriptFails(wide("wait", "10000"), 2, 695);
        scriptFails(wide("call a b", "c"), 1, 699);
    }

    // ---- the grammar

    /** setup = "board" lines cords ";" { "trunk" toll ";" } subscriber { subscriber } { command ";" } */
    private static void setupsAreBoardTrunksUsersCommands() {
        CordBoard board = Checks.loaded("board 3 2;trunk 7;trunk 8;user a 2 s 1;user b 1 l 2;wait 9;call a b;");
        Checks.same("lines", board.lineCount(), 3);
        Checks.same("cords", board.cordCount(), 2);
        Checks.same("toll", board.toll(1), 8);
        Checks.same("line", board.lineOf(0), 2);
        Checks.same("clock", board.clock(), 9);
        Checks.same("talking", board.talkingCalls(), 1);
        Checks.loadFails("trunk 7;board 3 2;user a 2 s 1;", 1, 0);
        Checks.loadFails("user a 2 s 1;board 3 2;", 1, 0);
        Checks.loadFails("board 3 2;user a 2 s 1;trunk 7;", 1, 29);
        Checks.loadFails("board 3 2;user a 2 s 1;wait 9;user b 1 l 2;", 1, 30);
        Checks.loadFails("board 3 2;user a 2 s 1;board 3 2;", 1, 23);
        Checks.loadFails("board 3 2;wait 9;user a 2 s 1;", 1, 10);
        Checks.loadFails("board 3;user a 2 s 1;", 1, 7);
        Checks.loadFails("board 3 2 1;user a 2 s 1;", 1, 10);
        Checks.loadFails("board 3 2;trunk;user a 2 s 1;", 1, 15);
        Checks.loadFails("board 3 2;trunk 7 8;user a 2 s 1;", 1, 18);
        Checks.loadFails("board 3 2;user a 2 s 1 1;", 1, 23);
        Checks.loadFails("board 3 2;user a 2 1 s;", 1, 19);
    }

    /** "Braces mean any number of repetitions" */
    private static void trunksMayBeLeftOut() {
        Checks.same("no trunk", Checks.loaded(HEAD).trunkCount(), 0);
        Checks.same("one", Checks.loaded("board 1 1;trunk 1;user a 0 s 5;").trunkCount(), 1);
        Checks.same("four", Checks.loaded("board 1 1;" + Checks.repeat("trunk 1;", 4) + "user a 0 s 5;").trunkCount(), 4);
    }

    /** subscriber { subscriber } */
    private static void oneUserIsNeeded() {
        Checks.loadFails("board 1 1;", 1, 10);
        Checks.loadFails("board 1 1;trunk 1;", 1, 18);
        Checks.loadFails("board 1 1;trunk 1;wait 1;", 1, 18);
        Checks.loads("board 1 1;user a 0 s 5;", 1);
        Checks.loads("board 1 1;user a 0 s 5;user b 0 l 5;", 2);
    }

    /** script = { command ";" } */
    private static void commandsMayBeLeftOut() {
        scriptIsFine("", 0);
        scriptIsFine(" ", 0);
        scriptIsFine("wait 1;", 1);
        scriptIsFine("wait 1;wait 1;", 2);
        scriptFails(";", 1, 0);
        scriptFails("wait 1;;", 1, 7);
    }

    /** The five commands, each with just its parts. */
    private static void eachCommandHasItsForm() {
        scriptIsFine("call a b;trunk b 0;end 0;wait 1;mood a 0;", 5);
        scriptFails("call;", 1, 4);
        scriptFails("call a;", 1, 6);
        scriptFails("call a b a;", 1, 9);
        scriptFails("call a 1;", 1, 7);
        scriptFails("call 0 b;", 1, 5);
        scriptFails("trunk;", 1, 5);
        scriptFails("trunk a;", 1, 7);
        scriptFails("trunk a b;", 1, 8);
        scriptFails("trunk a 0 0;", 1, 10);
        scriptFails("trunk 0 0;", 1, 6);
        scriptFails("call a b;end;", 1, 12);
        scriptFails("call a b;end a;", 1, 13);
        scriptFails("call a b;end 0 0;", 1, 15);
        scriptFails("wait;", 1, 4);
        scriptFails("wait a;", 1, 5);
        scriptFails("wait 1 1;", 1, 7);
        scriptFails("mood;", 1, 4);
        scriptFails("mood a;", 1, 6);
        scriptFails("mood a b;", 1, 7);
        scriptFails("mood 0 0;", 1, 5);
        scriptFails("mood a 0 0;", 1, 9);
    }

    /** "brackets mean that a part is optional" */
    private static void urgentMayBeLeftOut() {
        CordBoard board = Checks.played(Checks.PAIR, "call a b;call a b urgent;trunk a 0;trunk a 0 urgent;");
        for (int number = 0; number < 4; number++) {
            Checks.yes("urgency of " + number, board.isUrgent(number) == (number % 2 == 1));
        }
        scriptFails("call a b urgent urgent;", 1, 16);
        scriptFails("trunk a 0 urgent urgent;", 1, 17);
        scriptFails("call a b urgen;", 1, 9);
        scriptFails("call a b urgently;", 1, 9);
        scriptFails("wait 5 urgent;", 1, 7);
        scriptFails("mood a 5 urgent;", 1, 9);
        scriptFails("call a b;end 0 urgent;", 1, 15);
        scriptFails("call urgent a b;", 3, 5);
    }

    /** "The rings are a word of 1 to 5 letters s (short) and l (long)." */
    private static void ringsAreLettersSAndL() {
        Checks.same("sslsl", Checks.loaded("board 1 1;user a 0 sslsl 5;").whoAnswers(0, 37), 0);
        for (char letter = 'a'; letter <= 'z'; letter++) {
            String text = "board 1 1;user a 0 s" + letter + "s 5;";
            if (letter == 's' || letter == 'l') {
                Checks.loads(text, 1);
            } else {
                Checks.loadFails(text, 1, 19);
            }
        }
        Checks.loadFails("board 1 1;user a 0 asssl 5;", 1, 19);
        Checks.loadFails("board 1 1;user a 0 ssslm 5;", 1, 19);
        Checks.loadFails("board 1 1;user a 0 lslsls 5;", 1, 19);
        Checks.loadFails("board 1 1;user a 0 ; 5;", 1, 19);
    }

    // ---- tokens

    /** "A word is a maximal run of the letters a to z. A number is a maximal run of digits .. Spaces (byte 32)" */
    private static void bytesOfTokens() {
        for (int value = 0; value < 256; value++) {
            String sign = String.valueOf((char) value);
            boolean isSpace = value == 32;
            boolean isDigit = value >= '0' && value <= '9';
            boolean isLetter = value >= 'a' && value <= 'z';
            if (isSpace) {
                scriptIsFine(sign + "wait 12;", 1);
                scriptIsFine("wait" + sign + "12;", 1);
                scriptIsFine("wait 12" + sign + ";", 1);
                scriptIsFine("wait 12;" + sign, 1);
            } else {
                scriptFails(sign + "wait 12;", 1, 0);
                scriptFails("wait 12;" + sign, 1, 8);
                if (isDigit) {
                    scriptIsFine("wait" + sign + "12;", 1);
                    scriptIsFine("wait 12" + sign + ";", 1);
                } else {
                    scriptFails("wait" + sign + "12;", 1, isLetter ? 0 : 4);
                    scriptFails("wait 12" + sign + ";", 1, value == ';' ? 8 : 7);
                }
            }
        }
    }

    /** "with or without leading zeros" */
    private static void leadingZerosDoNotMatter() {
        Checks.loads("board 01 006;trunk 0099;user a 00 s 009;", 1);
        scriptIsFine("wait " + Checks.repeat("0", 600) + "9999;", 1);
        scriptIsFine("call a b;end 00;trunk a 0000;mood a 05;", 4);
        scriptFails("wait " + Checks.repeat("0", 600) + ";", 2, 5);
        scriptFails("wait 0010000;", 2, 5);
        CordBoard board = Checks.played(Checks.PAIR, "wait 00000000000000000000000012;");
        Checks.same("the clock", board.clock(), 12);
    }

    /** A number of any length is a number, also behind the wrap-arounds of int and long. */
    private static void longNumbersAreOutOfRange() {
        String[] numbers = {"10000", "100000", "1000000", "10000000", "2147483647", "2147483648", "2147483649",
            "4294967295", "4294967296", "4294967297", "9223372036854775807", "9223372036854775808", "18446744073709551616",
            "18446744073709551617", "1" + Checks.repeat("0", 640) + "1", Checks.repeat("9", 640)};
        for (String number : numbers) {
            scriptFails("wait " + number + ";", 2, 5);
            scriptFails("call a b;end " + number + ";", 2, 13);
            scriptFails("trunk a " + number + ";", 2, 8);
            scriptFails("mood a " + number + ";", 2, 7);
            Checks.loadFails("board " + number + " 1;user a 0 s 5;", 2, 6);
            Checks.loadFails("board 1 " + number + ";user a 0 s 5;", 2, 8);
            Checks.loadFails("board 1 1;trunk " + number + ";", 2, 16);
            Checks.loadFails("board 1 1;user a " + number + " s 5;", 2, 17);
            Checks.loadFails("board 1 1;user a 0 s " + number + ";", 2, 21);
        }
    }

    /** "Spaces (byte 32) may stand before and after every token." */
    private static void spacesMayStandAroundTokens() {
        Checks.loads("  board  2  1  ;  trunk  5  ;  user  a  0  s  5  ;  user  b  1  l  0  ;  wait  3  ;  ", 2);
        scriptIsFine("  call  a  b  urgent  ;  trunk  b  0  urgent  ;  end  0  ;  wait  1  ;  mood  a  0  ;  ", 5);
        Checks.loadFails("bo ard 2 1;user a 0 s 5;", 1, 0);
        Checks.loadFails("board 2 1;user a 0 s s 5;", 1, 21);
        scriptFails("wait 1 0;", 1, 7);
    }

    /** "They are needed only between two words and between two numbers." */
    private static void spacesAreNeededBetweenLikeTokens() {
        Checks.loads("board2 1;trunk5;user a0s5;user b1l0;wait3;call a b;trunk a0;end0;mood b9;", 2);
        scriptIsFine("call a b;trunk b0urgent;end0;", 3);
        Checks.loadFails("board21;user a 0 s 5;", 2, 5);
        Checks.loadFails("board11 1;user a 0 s 5;", 2, 5);
        Checks.loadFails("board2 1;usera 0 s 5;", 1, 9);
        scriptFails("calla b;", 1, 0);
        scriptFails("call ab;", 3, 5);
        scriptFails("call a burgent;", 1, 7);
        scriptFails("call a burgen;", 3, 7);
        scriptFails("trunka 0;", 1, 0);
        scriptFails("mooda 0;", 1, 0);
    }

    /** "A name is a word of 1 to 6 letters" */
    private static void namesHaveOneToSixLetters() {
        for (int letters = 1; letters <= 6; letters++) {
            String name = "zyxwva".substring(0, letters);
            CordBoard board = Checks.loaded("board 1 1;user " + name + " 0 s 5;user q 0 l 5;");
            Checks.same("the name", Checks.nameOf(board, 0), name);
            Checks.same("call of " + name, Checks.play(board, "call q " + name + ";call " + name + " q;"), 2);
        }
        Checks.loadFails("board 1 1;user abcdefg 0 s 5;", 1, 15);
        Checks.loadFails("board 1 1;user " + Checks.repeat("a", 600) + " 0 s 5;", 1, 15);
        Checks.loadFails("board 1 1;user 0 s 5;", 1, 15);
        Checks.loadFails("board 1 1;user ; 0 s 5;", 1, 15);
        for (String name : new String[] {"abcdefg", "aaaaaaaa", "bbbbbbbbb"}) {
            scriptFails("call " + name + " b;", 1, 5);
            scriptFails("call a " + name + ";", 1, 7);
            scriptFails("trunk " + name + " 0;", 1, 6);
            scriptFails("mood " + name + " 0;", 1, 5);
        }
    }

    /** "keywords may be used as names" */
    private static void keywordsMayBeNames() {
        String[] keywords = {"board", "trunk", "user", "call", "end", "wait", "mood", "urgent"};
        StringBuilder setup = new StringBuilder("board 1 1;trunk 1;");
        for (int user = 0; user < keywords.length; user++) {
            setup.append("user ").append(keywords[user]).append(" 0 ").append(Checks.ringsOf(8 + user)).append(" 0;");
        }
        CordBoard board = Checks.loaded(setup.toString());
        for (int user = 0; user < keywords.length; user++) {
            String name = keywords[user];
            String other = keywords[(user + 1) % keywords.length];
            Checks.same("the name", Checks.nameOf(board, user), name);
            String script = "mood " + name + " 3;call " + name + " " + other + ";trunk " + name + " 0;call " + other + " "
                    + name + " urgent;";
            Checks.same("play of " + script, Checks.play(board, script), 4);
            Checks.same("the mood", board.curiosity(user), 3);
            Checks.same("the caller", board.callerOf(3 * user), user);
        }
        // "urgent" is a name where a name is due, and urgency only behind the names.
        Checks.same("urgent as a name", Checks.play(board, "call urgent user;call user urgent;call user urgent urgent;"), 3);
        Checks.yes("24 is not urgent", !board.isUrgent(24));
        Checks.yes("25 is not urgent", !board.isUrgent(25));
        Checks.yes("26 is urgent", board.isUrgent(26));
        Checks.same("26 calls urgent", board.calledSubscriber(26), 7);
    }

    /** "A command is executed when its semicolon has been read." */
    private static void commandsAreExecutedAtTheirSemicolon() {
        scriptIsFine("call a b;end 0;", 2);
        scriptFails("end 0;call a b;", 2, 4);
        scriptFails("call a b;end 1;", 2, 13);
        scriptFails("call a b;end 0;end 0;", 7, 20);
        CordBoard board = Checks.played(Checks.PAIR, "trunk a 0;wait 61;end 0;wait 5;call b a;mood b 0;call a b;");
        Checks.same("the bill", board.bill(0), 18);
        Checks.same("the start", board.startTime(1), 66);
        Checks.same("the waiting call", board.callState(2), CordBoard.WAITING);
        Checks.loads(Checks.PAIR + "call a b;end 0;", 2);
        Checks.loadFails(Checks.PAIR + "call a b;end 1;", 2, 57);
    }

    // ---- errors

    /** "Parsing stops at the first wrong token. The error offset is the index of the first byte of that token" */
    private static void parsingStopsAtTheFirstWrongToken() {
        scriptFails("wait 0;wait x;", 2, 5);
        scriptFails("wait x;wait 0;", 1, 5);
        scriptFails("call c b;wait 0;", 3, 5);
        scriptFails("wait   0;", 2, 7);
        scriptFails("  wait 12345 x;", 2, 7);
        scriptFails("call a ccc;", 3, 7);
        scriptFails("call a b c;end 9;", 1, 9);
        Checks.loadFails("board 9 9;", 2, 6);
        Checks.loadFails(HEAD + "user a 9 x 99;", 4, 28);
        Checks.loadFails(HEAD + "user b 9 x 99;", 2, 30);
        Checks.loadFails(HEAD + "user b 0 x 99;", 1, 32);
        Checks.loadFails(HEAD + "user b 0 s 99;", 5, 32);
        Checks.loadFails(HEAD + "user b 0 l 99;", 2, 34);
        Checks.loadFails(HEAD + "user b 0 l 9,", 1, 35);
        Checks.loadFails("x", 1, 0);
    }

    /** "or the length of the text if the text ends too early" */
    private static void offsetOfTextsThatEndTooEarly() {
        String setup = "board 1 1;trunk 5;user a 0 s 5;";
        for (int length = 0; length < setup.length(); length++) {
            if (isBehindToken(setup, length)) {
                Checks.loadFails(setup.substring(0, length), 1, length);
                Checks.loadFails(setup.substring(0, length) + "   ", 1, length + 3);
            }
        }
        String script = "call a b urgent;trunk b 0 urgent;end 0;wait 1;mood a 0;";
        for (int length = 1; length < script.length(); length++) {
            if (isBehindToken(script, length) && script.charAt(length - 1) != ';') {
                scriptFails(script.substring(0, length), 1, length);
                scriptFails(script.substring(0, length) + "   ", 1, length + 3);
            }
        }
        // A word that is cut off is a wrong token of its own.
        scriptFails("wait 1;cal", 1, 7);
        scriptFails("call a b urgen", 1, 9);
    }

    private static boolean isBehindToken(String text, int length) {
        return length == 0 || !Character.isLetter(text.charAt(length - 1)) || !Character.isLetter(text.charAt(length));
    }

    /** "If several error codes apply to a token, the lowest code is reported." */
    private static void lowestCodeIsReported() {
        // 1 before 3: a word that is no name is also no known one.
        scriptFails("call abcdefg b;", 1, 5);
        scriptFails("call a aaaaaaa;", 1, 7);
        // 1 before 4: so is a word whose letters begin like an earlier name.
        Checks.loadFails("board 1 1;user abcdef 0 s 5;user abcdefg 0 l 5;", 1, 33);
        // 1 before 5: too many rings, or strange ones, that begin with those of an earlier subscriber.
        Checks.loadFails(HEAD + "user b 0 ssssss 5;", 1, 32);
        Checks.loadFails(HEAD + "user b 0 sx 5;", 1, 32);
        // 1 before 6: with 40 calls, what stands in place of the semicolon is not allowed.
        Checks.playFails(() -> Checks.withCalls(40), "call a b a;", 1, 9);
        Checks.playFails(() -> Checks.withCalls(40), "trunk a 0 0;", 1, 10);
        Checks.playFails(() -> Checks.withCalls(40), "call a b", 1, 8);
        // 1 before 6: "user" and "trunk" where the grammar does not allow them.
        String crowd = Checks.crowd(15, 1, 5);
        Checks.loadFails(crowd + "wait 5;user px 0 l 5;", 1, crowd.length() + 7);
        Checks.loadFails(crowd + "user px 0 l 5;", 6, crowd.length());
        Checks.playFails(() -> Checks.loaded(crowd), "user px 0 l 5;", 1, 0);
        String trunks = "board 1 1;" + Checks.repeat("trunk 1;", 4);
        Checks.loadFails(trunks + "user a 0 s 5;trunk 1;", 1, trunks.length() + 19);
        // 1 before 7: what stands in place of the semicolon of "end".
        scriptFails("call a b;end 0;end 0 0;", 1, 21);
        scriptFails("call a b;end 0;end 0", 1, 20);
        // 2 before all that a later token could tell.
        Checks.playFails(() -> Checks.withCalls(40), "trunk a 1;", 2, 8);
        Checks.playFails(() -> Checks.withCalls(40), "end 40;", 2, 4);
        // A number that is both too large for "wait" and too much for the clock.
        Checks.playFails(() -> Checks.late(999999), "wait 10000;", 2, 5);
    }

    /** "Code 1, syntax error: the token is not allowed there, the byte belongs to no token .." */
    private static void code1InSetups() {
        Checks.loadFails("", 1, 0);
        Checks.loadFails("   ", 1, 3);
        Checks.loadFails("bored 1 1;", 1, 0);
        Checks.loadFails("boards 1 1;user a 0 s 5;", 1, 0);
        Checks.loadFails("boar 1 1;user a 0 s 5;", 1, 0);
        Checks.loadFails("hoard 1 1;user a 0 s 5;", 1, 0);
        Checks.loadFails("boart 1 1;user a 0 s 5;", 1, 0);
        Checks.loadFails("Board 1 1;user a 0 s 5;", 1, 0);
        Checks.loadFails("board x 1;user a 0 s 5;", 1, 6);
        Checks.loadFails("board 1 x;user a 0 s 5;", 1, 8);
        Checks.loadFails("board 1 -1;user a 0 s 5;", 1, 8);
        Checks.loadFails("board 1 1 user a 0 s 5;", 1, 10);
        Checks.loadFails("board 1 1;;user a 0 s 5;", 1, 10);
        Checks.loadFails("board 1 1;trunks 5;user a 0 s 5;", 1, 10);
        Checks.loadFails("board 1 1;drunk 5;user a 0 s 5;", 1, 10);
        Checks.loadFails("board 1 1;trunk a;user a 0 s 5;", 1, 16);
        Checks.loadFails("board 1 1;trunk 5 user a 0 s 5;", 1, 18);
        Checks.loadFails("board 1 1;uses a 0 s 5;", 1, 10);
        Checks.loadFails("board 1 1;user ab$ 0 s 5;", 1, 17);
        Checks.loadFails("board 1 1;user a s 5;", 1, 17);
        Checks.loadFails("board 1 1;user a 0 s s;", 1, 21);
        Checks.loadFails("board 1 1;user a 0 s 5 user b 0 l 5;", 1, 23);
        Checks.loadFails("board 1 1;user a 0 s 5;$", 1, 23);
        Checks.loadFails("board 1 1;user a 0 s 5;call", 1, 27);
        Checks.loadFails("board 1 1;user a 0 s 5;5", 1, 23);
    }

    private static void code1InScripts() {
        String[] starts = {"hang 0;", "board 1 1;", "user c 0 ss 5;", "urgent;", "calls a b;", "cal a b;", "ends 0;",
            "and 0;", "en 0;", "gait 5;", "waits 5;", "WAIT 5;", "food a 5;", "moods a 5;", "drunk a 0;", "a;", "5;",
            "$", "\t", "\n", "-", "{"};
        for (String start : starts) {
            scriptFails(start, 1, 0);
            scriptFails("wait 5;" + start, 1, 7);
        }
        scriptFails("wait -5;", 1, 5);
        scriptFails("wait 5.5;", 1, 6);
        scriptFails("call a,b;", 1, 6);
        scriptFails("wait 5:", 1, 6);
    }

    /** "Code 2, number out of range: the ranges are those of this document" */
    private static void code2InSetups() {
        Checks.loadFails("board 0 1;user a 0 s 5;", 2, 6);
        Checks.loadFails("board 7 1;user a 0 s 5;", 2, 6);
        Checks.loadFails("board 1 0;user a 0 s 5;", 2, 8);
        Checks.loadFails("board 1 7;user a 0 s 5;", 2, 8);
        Checks.loadFails("board 1 1;trunk 0;user a 0 s 5;", 2, 16);
        Checks.loadFails("board 1 1;trunk 100;user a 0 s 5;", 2, 16);
        Checks.loadFails("board 3 1;user a 3 s 5;", 2, 17);
        Checks.loadFails("board 1 1;user a 0 s 10;", 2, 21);
        // The old board does not count: here it has 3 lines, the new one 1.
        Checks.loadFails("board 1 1;user a 1 s 5;", 2, 17);
        Checks.loads("board 6 6;trunk 1;trunk 99;user a 0 s 0;user b 5 s 9;", 2);
    }

    /** "a line, a trunk or a call that does not exist; the seconds of "wait" are 1 to 9999" */
    private static void code2InScripts() {
        scriptFails("trunk a 1;", 2, 8);
        Checks.playFails(() -> Checks.loaded(HEAD), "trunk a 0;", 2, 8);
        Checks.plays(() -> Checks.loaded("board 1 1;trunk 1;trunk 1;trunk 1;trunk 1;user a 0 s 5;"), "trunk a 3;", 1);
        Checks.playFails(() -> Checks.loaded("board 1 1;trunk 1;trunk 1;trunk 1;trunk 1;user a 0 s 5;"), "trunk a 4;", 2, 8);
        scriptFails("end 0;", 2, 4);
        Checks.plays(() -> Checks.withCalls(40), "end 39;", 1);
        Checks.playFails(() -> Checks.withCalls(39), "end 39;", 2, 4);
        scriptFails("wait 0;", 2, 5);
        scriptFails("wait 10000;", 2, 5);
        scriptIsFine("wait 1;wait 9999;", 2);
        scriptFails("mood a 10;", 2, 7);
        scriptIsFine("mood a 0;mood b 9;", 2);
        Checks.plays(() -> Checks.late(999990), "wait 4;wait 5;", 2);
        Checks.playFails(() -> Checks.late(999990), "wait 4;wait 6;", 2, 12);
        Checks.playFails(() -> Checks.late(999990), "wait 10;", 2, 5);
        // It is the number that is wrong, so what stands behind it is not looked at.
        Checks.playFails(() -> Checks.late(999990), "wait 10", 2, 5);
        Checks.playFails(() -> Checks.late(999990), "wait 10 a;", 2, 5);
        Checks.playFails(() -> Checks.late(999999), "wait 1;", 2, 5);
        Checks.playFails(() -> Checks.late(999999), "wait a;", 1, 5);
        // The clock of a new board is 0 again.
        Checks.plays(() -> loadedLate(), "wait 9999;", 1);
    }

    private static CordBoard loadedLate() {
        CordBoard board = Checks.late(999999);
        Checks.load(board, Checks.PAIR);
        return board;
    }

    /** "Code 3, unknown name: .. the second name of "call", if it is the first one." */
    private static void code3UnknownName() {
        scriptFails("call c b;", 3, 5);
        scriptFails("call a c;", 3, 7);
        scriptFails("call a a;", 3, 7);
        scriptFails("call b b;", 3, 7);
        scriptFails("call aa b;", 3, 5);
        scriptFails("call abcdef b;", 3, 5);
        scriptFails("trunk c 0;", 3, 6);
        scriptFails("mood c 5;", 3, 5);
        scriptFails("mood ann 5;", 3, 5);
        // A name of which another one is the beginning, or the other way round, is not the same.
        CordBoard board = Checks.loaded("board 1 1;user ab 0 s 5;user a 0 ls 5;user abc 0 ll 5;");
        Checks.same("play", Checks.play(board, "call a ab;call abc a;call ab abc;"), 3);
        Checks.same("caller 0", board.callerOf(0), 1);
        Checks.same("caller 1", board.callerOf(1), 2);
        Checks.same("caller 2", board.callerOf(2), 0);
        Checks.loadFails(Checks.PAIR + "call a c;", 3, 51);
        // The names of the board before the setup are gone.
        Checks.loadFails(Checks.PAIR + "call a ann;", 3, 51);
    }

    /** "Code 4, duplicate name: an earlier subscriber has the name of a new subscriber." */
    private static void code4DuplicateName() {
        Checks.loadFails(HEAD + "user a 0 l 5;", 4, 28);
        Checks.loadFails(HEAD + "user a 1 s 5;", 4, 28);
        Checks.loadFails("board 1 1;user abcdef 0 s 5;user b 0 ls 5;user abcdef 0 ll 5;", 4, 47);
        Checks.loadFails("board 1 1;user a 0 s 5;user b 0 ls 5;user b 0 ll 5;", 4, 42);
        Checks.loads("board 1 1;user a 0 s 5;user aa 0 ls 5;user aaaaaa 0 ll 5;", 3);
        Checks.loads("board 1 1;user abcdef 0 s 5;user abcdeg 0 ls 5;user bbcdef 0 ll 5;", 3);
        // A name of the board before the setup may come again.
        Checks.loads(Checks.SETUP, 6);
    }

    /** "Code 5, ambiguous: .. the same as, or the beginning of, those of an earlier subscriber .., or begin with these." */
    private static void code5Ambiguous() {
        String setup = "board 2 1;user a 0 sls 5;user b 0 ";
        Checks.loadFails(setup + "sls 5;", 5, 34);
        Checks.loadFails(setup + "sl 5;", 5, 34);
        Checks.loadFails(setup + "s 5;", 5, 34);
        Checks.loadFails(setup + "slss 5;", 5, 34);
        Checks.loadFails(setup + "slsll 5;", 5, 34);
        Checks.loads(setup + "sll 5;", 2);
        Checks.loads(setup + "ss 5;", 2);
        Checks.loads(setup + "l 5;", 2);
        Checks.loads(setup + "lsls 5;", 2);
        Checks.loads("board 2 1;user a 0 sls 5;user b 1 sls 5;", 2);
        Checks.loadFails("board 2 1;user a 0 sls 5;user b 1 sls 5;user c 1 sl 5;", 5, 49);
    }

    /** "Code 6, too many: the word "trunk" of a 5th trunk, or the word "user" of a 16th subscriber; the semicolon .." */
    private static void code6TooMany() {
        String trunks = "board 1 1;" + Checks.repeat("trunk 1;", 4);
        Checks.loads(trunks + "user a 0 s 5;", 1);
        Checks.loadFails(trunks + "trunk 1;user a 0 s 5;", 6, 42);
        Checks.loadFails(trunks + "trunk", 6, 42);
        Checks.loadFails(trunks + "trunk 0;", 6, 42);
        // "trunk" is a command behind the users.
        Checks.loads(trunks + "user a 0 s 5;trunk a 3;", 1);
        String crowd = Checks.crowd(15, 1, 5);
        Checks.loads(crowd, 15);
        Checks.loads(crowd + "call pa po;", 15);
        Checks.loadFails(crowd + "user px 0 l 5;", 6, crowd.length());
        Checks.loadFails(crowd + "user", 6, crowd.length());
        Checks.loadFails(crowd + "user pa", 6, crowd.length());
        Checks.plays(() -> Checks.withCalls(38), "call a b;trunk b 0 urgent;end 39;wait 1;", 4);
        Checks.playFails(() -> Checks.withCalls(39), "call a b;call b a urgent;", 6, 24);
        Checks.playFails(() -> Checks.withCalls(39), "trunk a 0;trunk b 0 ;", 6, 20);
        Checks.playFails(() -> Checks.withCalls(40), "end 0;call a b;", 6, 14);
        Checks.plays(() -> Checks.withCalls(40), "end 0;end 39;mood a 0;", 3);
        Checks.loads(Checks.PAIR + Checks.repeat("call a b;", 40), 2);
        Checks.loadFails(Checks.PAIR + Checks.repeat("call a b;", 41), 6, 44 + 40 * 9 + 8);
    }

    /** "Code 7, over: the semicolon of "end", if the call is ended or cancelled." */
    private static void code7Over() {
        scriptFails("call a b;end 0;end 0;", 7, 20);
        scriptFails("call a b;call b a;end 1;end 1;", 7, 29);
        scriptFails("call a b;end 0;end 0  ;", 7, 22);
        scriptIsFine("call a b;call b a;end 0;end 1;", 4);
        scriptIsFine("call a b;call b a;end 1;end 0;", 4);
        Checks.loadFails(Checks.PAIR + "call a b;end 0;end 0;", 7, 64);
        Checks.playFails(Checks::used, "end 0;", 7, 5);
        Checks.playFails(Checks::used, "end 2;", 7, 5);
        Checks.plays(Checks::used, "end 1;end 3;", 2);
    }
}
