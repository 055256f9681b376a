/** The edges of THE TEXT: type, clear, read. */
public final class TextEdgesTest extends Check {
    private static final String WHOLE = "last 5;island 4;walker 9 4 0;board 3 2 30 1;";

    public static void main(String[] args) {
        runAll(TextEdgesTest.class);
    }

    private static void broken(String text, int place) {
        BogBoards x = new BogBoards();
        due("read of '" + text + "'", read(x, text), -10 - place);
        due("count(5) behind it", x.count(5), 7);
    }

    private static void whole(String text, int items) {
        due("read of '" + text + "'", read(new BogBoards(), text), items);
    }

    /** Puts the numbers 0 to 99 in the place of #, of which only some can stand there. */
    private static void numbers(String text, int least, int most) {
        int place = text.indexOf('#');
        for (int n = 0; n <= 99; n++) {
            boolean isTold = n >= least && n <= most;
            String told = text.replace("#", "" + n);
            due("read of '" + told + "'", Math.min(0, read(new BogBoards(), told)), isTold ? 0 : -10 - place);
        }
    }

    static void oneToEightBytesAreTyped() {
        sentence("type: the lowest n (1 .. 8) bytes of v: how many it has. BAD");
        BogBoards x = new BogBoards();
        int had = 0;
        for (int n = 1; n <= 8; n++) {
            had += n;
            due("type(32, " + n + ")", x.type(32, n), had);
        }
        int[] bad = {0, 9, -1, -8, 16, 264, Integer.MIN_VALUE, Integer.MAX_VALUE};
        for (int n : bad) {
            due("type(32, " + n + ")", x.type(32, n), -2);
        }
        due("count(2)", x.count(2), had);
        refusals(x, bad.length, 0, 0);
    }

    static void theLowestBytesComeTheHighestFirst() {
        sentence("type: the lowest n bytes of v, the highest of them first");
        long due = bog(WHOLE).digest();
        for (int n = 1; n <= 8; n++) {
            BogBoards x = new BogBoards();
            for (int from = 0; from < WHOLE.length(); from += n) {
                int many = Math.min(n, WHOLE.length() - from);
                // What stands above the lowest bytes does not count.
                long v = -1;
                for (int i = 0; i < many; i++) {
                    v = v << 8 | WHOLE.charAt(from + i);
                }
                x.type(v, many);
            }
            due("read, typed by " + n, x.read(), 4);
            due("digest, typed by " + n, x.digest(), due);
        }
    }

    static void bytesAreNeverBelowZero() {
        sentence("type: bytes of v (also of one below 0)");
        BogBoards x = new BogBoards();
        due("type(-1, 8)", x.type(-1, 8), 8);
        due("read of bytes 255", x.read(), -10);
        x.clear();
        type(x, "last 3;");
        due("type(Long.MIN_VALUE, 8)", x.type(Long.MIN_VALUE, 8), 15);
        due("read, byte 128 behind an item", x.read(), -17);
    }

    static void twoHundredBytesAtMost() {
        sentence("THE TEXT (200 bytes at most); FULL");
        BogBoards x = new BogBoards();
        for (int i = 1; i <= 24; i++) {
            due("type 8", x.type(-1, 8), 8 * i);
        }
        due("type 7 of 8 that are left", x.type(-1, 7), 199);
        for (int n = 2; n <= 8; n++) {
            due("type " + n + " where one is left", x.type(-1, n), -4);
            due("count(2)", x.count(2), 199);
        }
        due("type the last one", x.type(-1, 1), 200);
        due("type one more", x.type(-1, 1), -4);
        due("count(2)", x.count(2), 200);
        refusals(x, 0, 0, 8);
        BogBoards y = new BogBoards();
        for (int i = 1; i <= 25; i++) {
            due("type 8", y.type(-1, 8), 8 * i);
        }
        due("type 8 more", y.type(-1, 8), -4);
        refusals(y, 0, 0, 1);
    }

    static void badIsAheadOfFull() {
        sentence("Refused, the first of: BAD -2; NO -3; FULL -4 (type)");
        BogBoards x = new BogBoards();
        for (int i = 1; i <= 25; i++) {
            x.type(-1, 8);
        }
        due("type(0, 9) when full", x.type(0, 9), -2);
        due("type(0, 0) when full", x.type(0, 0), -2);
        refusals(x, 2, 0, 0);
    }

    static void aFullTextIsReadToItsEnd() {
        sentence("THE TEXT (200 bytes at most): all of them are read");
        String full = "    last 7;" + "island 1;".repeat(21);
        due("the length of it", full.length(), 200);
        whole(full, 22);
        broken(full.substring(0, 199) + " ", 200);
        broken(full.substring(0, 199) + "x", 199);
        broken(" ".repeat(200), 200);
        whole("last 1;" + " ".repeat(193), 1);
        broken("last 1;" + " ".repeat(192) + ";", 199);
    }

    static void clearAnswersHowManyItHad() {
        sentence("clear: THE TEXT is empty: how many it had");
        BogBoards x = bog(WHOLE);
        long before = x.digest();
        due("clear()", x.clear(), WHOLE.length());
        due("count(2)", x.count(2), 0);
        due("clear() of none", x.clear(), 0);
        due("read of what was cleared", x.read(), -10);
        type(x, WHOLE);
        due("digest", x.digest(), before);
        BogBoards y = new BogBoards();
        for (int i = 1; i <= 25; i++) {
            y.type(0, 8);
        }
        due("clear() of a full one", y.clear(), 200);
        due("type behind it", y.type(0, 8), 8);
        refusals(y, 0, 0, 0);
    }

    static void itemsAreCounted() {
        sentence("read: THE BOG is read: how many ITEMS");
        whole("last 1;", 1);
        whole("last 2;island 1;", 2);
        whole("last 2;island 1;island 1;island 1;", 4);
        whole("last 4;board 0 1 1 1;board 0 1 1 2;walker 1 0 0;walker 1 0 0;walker 1 0 0;", 6);
        whole("last 4;walker 1 0 0;board 0 1 1 1;island 3;walker 1 0 0;board 0 1 1 2;walker 1 4 0;", 7);
    }

    static void eachItemIsEnded() {
        sentence("ITEMS, each ended by ;");
        broken("last 3", 6);
        broken("last 3 island 1;", 7);
        broken("last 3;island 1", 15);
        broken("last 3;island 1 island 2;", 16);
        broken("last 3;walker 1 0 0", 19);
        broken("last 3;walker 1 0 0 walker 1 0 0;", 20);
        broken("last 3;board 0 1 1 1", 20);
        broken("last 3;board 0 1 1 1 2;", 21);
        broken("last 3;;", 7);
        broken("last 3;island 1;;", 16);
        broken(";last 3;", 0);
    }

    static void lastIsOneToSeven() {
        sentence("last n (1 .. 7)");
        numbers("last #;", 1, 7);
        for (int last = 1; last <= 7; last++) {
            due("count(5) of last " + last, bog("last " + last + ";").count(5), last);
        }
    }

    static void lastStandsOnce() {
        sentence("last n (once); FAULT: last again");
        broken("last 3;last 3;", 7);
        broken("last 3;island 1;last 4;", 16);
        broken("last 3;walker 1 0 0;last", 20);
    }

    static void lastIsFirstOfAll() {
        sentence("last n (first of all); FAULT: anything ahead of it");
        broken("island 1;last 3;", 0);
        broken("walker 1 0 0;last 3;", 0);
        broken("board 0 1 1 1;last 3;", 0);
        broken("3 last 3;", 0);
        broken("; last 3;", 0);
        broken("  x last 3;", 2);
        broken("\tlast 3;", 0);
    }

    static void anIslandIsOneToLastLessOne() {
        sentence("island p (1 to LAST less 1)");
        for (int last = 1; last <= 7; last++) {
            numbers("last " + last + ";island #;", 1, last - 1);
        }
        due("place of the least", bog("last 7;island 1;").place(1), 1);
        due("place of the most", bog("last 7;island 6;").place(6), 1);
    }

    static void aWalkersNumbers() {
        sentence("walker WEIGHT PLACE GOAL (WEIGHT 1 .. 9; a PLACE 0 to LAST; GOAL 0, 1)");
        numbers("last 3;walker # 0 0;", 1, 9);
        for (int last = 1; last <= 7; last++) {
            numbers(allIslands(last) + "walker 1 # 0;", 0, last);
        }
        numbers("last 3;walker 1 0 #;", 0, 1);
        broken("last 3;walker;", 13);
        broken("last 3;walker 1;", 15);
        broken("last 3;walker 1 0;", 17);
        broken("last 3;walker 1 0 0 0;", 20);
    }

    static void aBoardsNumbers() {
        sentence("board KIND LENGTH BEARS PLACE (KIND 0 .. 5, LENGTH 1 .. 3, BEARS 1 .. 30, a PLACE)");
        numbers("last 3;board # 1 1 1;", 0, 5);
        numbers("last 3;board 0 # 1 0;", 1, 3);
        numbers("last 3;board 0 1 # 1;", 1, 30);
        for (int last = 1; last <= 7; last++) {
            numbers("last " + last + ";board 0 1 1 #;", 0, last);
        }
        broken("last 3;board;", 12);
        broken("last 3;board 0;", 14);
        broken("last 3;board 0 1;", 16);
        broken("last 3;board 0 1 1;", 18);
        broken("last 3;board 0 1 1 1 1;", 21);
    }

    static void aBoardLiesOnPlacesUpToLast() {
        sentence("it lies from there on: PLACES up to LAST");
        for (int last = 1; last <= 7; last++) {
            for (int kind = 0; kind <= 5; kind++) {
                for (int length = 1; length <= 3; length++) {
                    int span = kind == 2 || kind == 4 ? length + 1 : length;
                    numbers("last " + last + ";board " + kind + " " + length + " 1 #;", 0, last + 1 - span);
                }
            }
        }
    }

    static void aBoardLiesOnPlacesWithoutABoard() {
        sentence("it lies from there on: PLACES, none with a BOARD");
        for (int first = 0; first <= 4; first++) {
            for (int second = 0; second <= 5; second++) {
                String text = "last 7;board 2 1 9 " + first + ";board 0 3 9 " + second + ";";
                boolean isApart = second > first + 1 || second + 2 < first;
                due("read of '" + text + "'", read(new BogBoards(), text), isApart ? 3 : -10 - 33);
            }
        }
    }

    static void aBoardMayLieOnLand() {
        sentence("they may be land");
        BogBoards x = bog("last 3;island 1;board 2 3 9 0;");
        due("board(0, 0)", x.board(0, 0), 0);
        due("board(0, 1)", x.board(0, 1), 4);
        due("place(0)", x.place(0), 0);
        due("place(1)", x.place(1), 1);
        due("place(2)", x.place(2), 2);
        due("place(3)", x.place(3), 0);
        due("board at LAST", bog("last 7;board 0 1 9 7;").board(0, 0), 7);
        due("board on both lands", bog("last 1;board 2 1 9 0;").board(0, 1), 2);
    }

    static void wordsAreOfLettersAToZ() {
        sentence("TOKENS: words of letters a .. z");
        // ` and { stand beside a and z.
        broken("`last 3;", 0);
        broken("last` 3;", 4);
        broken("last{ 3;", 4);
        broken("last 3;{island 1;", 7);
        broken("last 3;island{ 1;", 13);
        broken("Last 3;", 0);
        broken("last 3;walkerZ 1 0 0;", 13);
        broken("zlast 3;", 0);
        broken("alast 3;", 0);
        broken("lasta 3;", 0);
        broken("lastz 3;", 0);
    }

    static void figuresAreZeroToNine() {
        sentence("TOKENS: figures");
        // / and : stand beside 0 and 9.
        broken("last /;", 5);
        broken("last :;", 5);
        broken("last 3/;", 6);
        broken("last 3:;", 6);
        whole("last 3;board 0 1 10 1;", 2);
        whole("last 3;board 0 1 29 1;", 2);
        whole("last 3;board 0 1 09 1;", 2);
    }

    static void oneOrTwoFiguresAreOneNumber() {
        sentence("figures (1 or 2 are one number)");
        due("count(5) of last 07", bog("last 07;").count(5), 7);
        due("board(0, 2) of 30", bog("last 3;board 00 01 30 01;").board(0, 2), 30);
        due("board(0, 2) of 12", bog("last 3;board 00 01 12 01;").board(0, 2), 12);
        due("board(0, 2) of 03", bog("last 3;board 00 01 03 01;").board(0, 2), 3);
        broken("last 3;board 0 1 1 2 1;", 21);
        broken("last 3;board 0 1 00 1;", 17);
    }

    static void aThirdFiguresNumberIsAFault() {
        sentence("FAULT: a third figure's number");
        broken("last 123;", 5);
        broken("last 007;", 5);
        broken("last 3;island 001;", 14);
        broken("last 3;walker 001 0 0;", 14);
        broken("last 3;walker 1 000 0;", 16);
        broken("last 3;walker 1 0 001;", 18);
        broken("last 3;board 000 1 1 1;", 13);
        broken("last 3;board 0 001 1 1;", 15);
        broken("last 3;board 0 1 123 1;", 17);
        broken("last 3;board 0 1 123;", 17);
        broken("last 3;board 0 1 1234;", 17);
        broken("last 3;board 0 1 1 001;", 19);
        broken("last 3;board 0 1 4294967297 1;", 17);
        broken("123 last 3;", 0);
        broken("last 3;123;", 7);
        broken("last 3 123;", 7);
    }

    static void blanksMayStandBetween() {
        sentence("blanks (32) between");
        whole("   last   3  ;   island  1 ; ", 2);
        whole("last3;island1;walker1 0 0;board0 1 9 2;", 4);
        broken("la st 3;", 0);
        broken("last 3;wal ker 1 0 0;", 7);
        broken("last 3;walker 100;", 14);
        broken("last 3;board 0 1 1 0 ;  board 0 1 2 0;", 36);
        for (int blank : new int[] {0, 9, 10, 12, 13, 31, 33, 95, 160}) {
            broken("last 3;" + (char) blank + "island 1;", 7);
        }
    }

    static void aWordThatIsNoneIsAFault() {
        sentence("FAULT: a word that is none");
        String[] none = {"a", "lasts", "las", "laat", "lasta", "islan", "islands", "isleand", "jsland", "walke", "walkers",
            "wolker", "boar", "boards", "beard", "islandwalker", "z"};
        for (String word : none) {
            broken(word + " 3;", 0);
            broken("last 3;" + word + " 1;", 7);
            broken("last 3;  island 1;  " + word, 20);
            broken("last " + word + ";", 5);
            broken("last 3 " + word + ";", 7);
        }
    }

    static void wordsStandOnlyWhereAnItemBegins() {
        sentence("FAULT: the place of the first byte of the TOKEN (a word or ; where a number is due, a number where none is)");
        broken("last last 3;", 5);
        broken("last island;", 5);
        broken("last 3 walker;", 7);
        broken("last 3;walker board 0 0;", 14);
        broken("last 3;board 0 1 last;", 17);
        broken("last ;3;", 5);
        broken("last 3;1;", 7);
    }

    static void aFourthWalkerIsAFault() {
        sentence("FAULT: a fourth walker");
        String walkers = "last 3;walker 1 0 0;walker 1 0 0;walker 1 0 0;";
        whole(walkers, 4);
        broken(walkers + "walker 1 0 0;", 46);
        broken(walkers + "  walker", 48);
        broken(walkers + "island 1;walker 0", 55);
        whole(walkers + "island 1;board 0 1 9 2;", 6);
    }

    static void aThirdBoardIsAFault() {
        sentence("FAULT: a third board");
        String boards = "last 7;board 0 1 1 1;board 0 1 1 2;";
        whole(boards, 3);
        broken(boards + "board 0 1 1 3;", 35);
        broken(boards + " board", 36);
        broken(boards + "island 1;board 9", 44);
        whole(boards + "island 1;walker 1 0 0;", 5);
    }

    static void aByteThatBeginsNoneIsAFault() {
        sentence("FAULT: a byte that begins none");
        for (int value = 0; value <= 255; value++) {
            boolean begins = value >= 'a' && value <= 'z' || value >= '0' && value <= '9' || value == ';' || value == ' ';
            char c = (char) value;
            if (!begins) {
                broken(c + "last 3;", 0);
                broken("last " + c + "3;", 5);
                broken("last 3" + c + ";", 6);
                broken("last 3;  " + c, 9);
            }
        }
    }

    static void aTextThatEndsTooEarly() {
        sentence("FAULT: the TEXT's length, if it ends too early");
        String text = "last 3;island 1;board 0 1 9 2;walker 1 0 1;";
        for (int length = 1; length < text.length(); length++) {
            String part = text.substring(0, length);
            // A part may end within a word: then that is a word that is none.
            boolean endsInWord = part.matches("(.*;)?(l|la|las|i|is|isl|isla|islan|b|bo|boa|boar|w|wa|wal|walk|walke)");
            int place = endsInWord ? part.lastIndexOf(';') + 1 : length;
            if (part.endsWith(";")) {
                whole(part, part.split(";").length);
            } else {
                broken(part, place);
                broken(part + "  ", endsInWord ? place : length + 2);
            }
        }
    }

    static void anEmptyTextEndsTooEarly() {
        sentence("FAULT: the TEXT's length, if it ends too early (an empty one, too)");
        due("read of nothing", new BogBoards().read(), -10);
        broken("", 0);
        broken(" ", 1);
        broken("        ", 8);
    }

    static void theFirstFaultIsTold() {
        sentence("FAULT: the first TOKEN that can not stand there");
        broken("last 3;walker 0 9 9;", 14);
        broken("last 3;walker 1 9 9;", 16);
        broken("last 3;walker 1 0 9 9", 18);
        broken("last 3;board 6 4 31 9;", 13);
        broken("last 3;board 0 4 31 9;", 15);
        broken("last 3;board 0 1 31 9;", 17);
        broken("last 3;board 0 1 30 9 9", 20);
        broken("last 9;last 9;", 5);
        broken("x", 0);
    }

    static void aFaultIsToldAsTenLess() {
        sentence("read: -10 less the FAULT: all stays");
        BogBoards x = bog("last 4;island 2;board 0 1 9 1;walker 4 0 1;", "a");
        acts(x, 8, 8);
        x.years(1, 5, 0);
        String text = "last 3;island 1;walker 1 1 1;board 0 1 9 2;last";
        x.clear();
        type(x, text);
        long before = x.digest();
        due("read()", x.read(), -10 - 43);
        due("digest", x.digest(), before);
        due("undo()", x.undo(), 1);
        due("walker(0, 0)", x.walker(0, 0), 1);
        refusals(x, 0, 0, 0);
    }

    static void aBogThatIsNotWellIsNotRead() {
        sentence("read: NO: it is not WELL: all stays");
        BogBoards x = bog("last 4;island 2;board 0 1 9 1;walker 4 0 1;", "a");
        acts(x, 8, 8);
        x.years(1, 5, 0);
        x.clear();
        type(x, "last 3;walker 1 1 0;");
        long before = x.digest();
        due("read()", x.read(), -3);
        due("digest", x.digest(), before);
        due("undo()", x.undo(), 1);
        due("walker(0, 0)", x.walker(0, 0), 1);
        refusals(x, 0, 1, 0);
    }

    static void wellIsAskedOfTheWholeText() {
        sentence("not read, if it is not WELL (behind the last ITEM)");
        whole("last 3;walker 1 1 0;island 1;", 3);
        whole("last 3;walker 1 2 0;board 0 2 1 1;", 3);
        due("a fault behind what is not well", read(new BogBoards(), "last 3;walker 1 1 0;x"), -30);
        due("a second one is wet", read(new BogBoards(), "last 3;island 1;walker 1 1 0;walker 1 2 0;"), -3);
        due("a third one is wet", read(new BogBoards(), "last 2;walker 1 0 0;walker 1 2 0;walker 1 1 0;"), -3);
    }

    static void aBoardBearsNoMoreThanItBears() {
        sentence("WELL: on no BOARD there is more than it BEARS (as it is read)");
        int[] halves = {2, 1, 2, 4, 2, 4};
        for (int kind = 0; kind <= 5; kind++) {
            for (int bears = 1; bears <= 20; bears++) {
                for (int weight = 1; weight <= 9; weight++) {
                    boolean holds = weight <= bears * halves[kind] / 2;
                    String text = "last 3;board " + kind + " 1 " + bears + " 1;walker " + weight + " 1 0;";
                    due("read of '" + text + "'", read(new BogBoards(), text), holds ? 3 : -3);
                }
            }
        }
    }

    static void allOnABoardCount() {
        sentence("WELL: on no BOARD there is more than it BEARS (all who stand on any of its PLACES)");
        for (int bears = 1; bears <= 30; bears++) {
            String text = "last 4;board 0 3 " + bears + " 1;walker 9 1 0;walker 8 2 0;walker 7 3 0;";
            due("read of '" + text + "'", read(new BogBoards(), text), bears >= 24 ? 5 : -3);
            String apart = "last 4;board 0 1 " + bears + " 1;board 0 1 30 2;walker 9 1 0;walker 8 2 0;walker 7 2 0;";
            due("read of '" + apart + "'", read(new BogBoards(), apart), bears >= 9 ? 6 : -3);
            String land = "last 4;board 0 1 " + bears + " 4;walker 9 4 0;walker 8 4 0;";
            due("read of '" + land + "'", read(new BogBoards(), land), bears >= 17 ? 4 : -3);
        }
    }

    static void aBogTakesThePlaceOfWhatWas() {
        sentence("A BOG that is read takes the place of what was");
        BogBoards x = bog("last 6;island 2;island 5;board 0 1 9 1;board 1 2 9 3;walker 4 0 1;walker 5 6 0;");
        acts(x, walk(0, 1), walk(0, 1), take(0, 0));
        String text = "last 4;island 1;walker 3 0 1;";
        due("read()", read(x, text), 3);
        due("digest", x.digest(), bog(text).digest());
        due("count(4), what may be undone", x.count(4), 0);
        due("undo()", x.undo(), -3);
        due("board(0, 0)", x.board(0, 0), -10);
        due("walker(1, 0)", x.walker(1, 0), -10);
        due("firm(2)", x.firm(2), 0);
        due("firm(5)", x.firm(5), -2);
        due("read of the same again", x.read(), 3);
        due("read of the least", read(x, "last 1;"), 1);
        due("digest", x.digest(), bog("last 1;").digest());
    }

    static void ruleAndYearsStay() {
        sentence("A BOG that is read: (RULE, YEARS stay)");
        BogBoards x = bog("last 2;walker 1 0 1;", "1");
        x.years(2, 5, 1);
        due("read()", read(x, "last 3;"), 1);
        due("count(3)", x.count(3), 1);
        due("fault()", x.fault(), -1);
        due("sign(0)", x.sign(0), 1);
        due("limb(0, 0)", x.limb(0, 0), 3);
        due("limb(1, 0)", x.limb(1, 0), 4);
    }

    static void theTextStaysWhenItIsRead() {
        sentence("read: THE BOG is read (THE TEXT is as it was)");
        BogBoards x = bog("last 3;");
        due("count(2)", x.count(2), 7);
        type(x, "island 2;");
        due("read() of more", x.read(), 2);
        due("place(2)", x.place(2), 1);
    }
}
