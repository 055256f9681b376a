/** The edges of THE BOG as it stands: a new object, place, firm, walker, board. */
public final class BogEdgesTest extends Check {
    private static final int[] FAR = {-1, -2, 8, 9, 255, 4096, Integer.MIN_VALUE, Integer.MAX_VALUE};

    public static void main(String[] args) {
        runAll(BogEdgesTest.class);
    }

    static void theConstants() {
        sentence("NONE = -1, BAD = -2, NO = -3, FULL = -4");
        due("NONE", BogBoards.NONE, -1);
        due("BAD", BogBoards.BAD, -2);
        due("NO", BogBoards.NO, -3);
        due("FULL", BogBoards.FULL, -4);
    }

    static void aNewObject() {
        sentence("BogBoards(): As told; no WALKERS, no BOARDS");
        BogBoards x = new BogBoards();
        for (int what = 0; what <= 4; what++) {
            due("count(" + what + ")", x.count(what), 0);
        }
        due("over()", x.over(), 1);
        due("fewest()", x.fewest(), 0);
        due("walker(0, 0)", x.walker(0, 0), -10);
        due("board(0, 0)", x.board(0, 0), -10);
        due("read()", x.read(), -10);
        due("fault()", x.fault(), 1);
        due("why(8)", x.why(8), 1);
        due("leaps(-1)", x.leaps(-1), 0);
        due("wrong(-1)", x.wrong(-1), 0);
        due("clear()", x.clear(), 0);
        due("erase()", x.erase(), 0);
        BogBoards y = new BogBoards();
        refusals(y, 0, 0, 0);
        due("undo()", y.undo(), -3);
        due("from(0)", y.from(0), -3);
        due("from(1)", y.from(1), -3);
    }

    static void placesAreZeroToSevenAtFirst() {
        sentence("PLACES 0 to LAST (7 at first)");
        BogBoards x = new BogBoards();
        due("count(5)", x.count(5), 7);
        due("place(7)", x.place(7), 0);
        due("place(8)", x.place(8), -2);
    }

    static void eachOtherPlaceIsWetAtFirst() {
        sentence("each other one is an ISLAND, or WET (at first)");
        BogBoards x = new BogBoards();
        for (int p = 1; p <= 6; p++) {
            due("place(" + p + ")", x.place(p), 2);
            due("firm(" + p + ")", x.firm(p), 0);
        }
        due("place(0)", x.place(0), 0);
        due("firm(0)", x.firm(0), 1);
        due("firm(7)", x.firm(7), 1);
    }

    static void placeTellsWhatAPlaceIs() {
        sentence("place: 0 land, 1 ISLAND, 2 WET. BAD; 0 and LAST are land");
        for (int last = 1; last <= 7; last++) {
            for (int island = 0; island < last; island++) {
                BogBoards x = bog("last " + last + ";" + (island == 0 ? "" : "island " + island + ";"));
                for (int p = -1; p <= 9; p++) {
                    int want = p < 0 || p > last ? -2 : p == 0 || p == last ? 0 : p == island ? 1 : 2;
                    due("place(" + p + ") of last " + last, x.place(p), want);
                }
                due("status(0)", x.status(0), 10 - last);
            }
        }
        BogBoards x = new BogBoards();
        for (int p : FAR) {
            due("place(" + p + ")", x.place(p), -2);
        }
        refusals(x, FAR.length, 0, 0);
    }

    static void placeIsTheSameUnderABoard() {
        sentence("place: of a PLACE: land, ISLAND, WET (also where a BOARD lies)");
        BogBoards x = bog("last 4;island 2;board 2 3 9 0;board 0 1 9 4;");
        int[] what = {0, 2, 1, 2, 0};
        for (int p = 0; p <= 4; p++) {
            due("place(" + p + ")", x.place(p), what[p]);
        }
    }

    static void firmIsLandAnIslandABoard() {
        sentence("FIRM is land, an ISLAND, a PLACE with a BOARD on it; firm: BAD");
        for (int last = 1; last <= 7; last++) {
            for (int at = 0; at + 1 <= last; at++) {
                BogBoards x = bog("last " + last + ";" + (last > 1 ? "island 1;" : "") + "board 0 2 9 " + at + ";");
                for (int p = -1; p <= 9; p++) {
                    boolean isFirm = p == 0 || p == last || p == 1 || p == at || p == at + 1;
                    due("firm(" + p + ")", x.firm(p), p < 0 || p > last ? -2 : isFirm ? 1 : 0);
                }
                due("status(0)", x.status(0), 10 - last);
            }
        }
        BogBoards x = new BogBoards();
        for (int p : FAR) {
            due("firm(" + p + ")", x.firm(p), -2);
        }
        refusals(x, FAR.length, 0, 0);
    }

    static void firmGoesWithTheBoard() {
        sentence("FIRM is a PLACE with a BOARD on it (only while it lies there)");
        BogBoards x = bog("last 4;island 2;board 0 1 9 1;walker 1 2 1;");
        due("firm(1)", x.firm(1), 1);
        acts(x, take(0, 0));
        due("firm(1) when it is carried", x.firm(1), 0);
        due("firm(2), an island", x.firm(2), 1);
        acts(x, lay(0, 0, 1));
        due("firm(3)", x.firm(3), 1);
        due("firm(1)", x.firm(1), 0);
    }

    static void walkersAsTheyCome() {
        sentence("WALKERS 0 .. 2, as they come; walker: BAD: -10");
        BogBoards x = bog("last 5;walker 7 0 1;island 2;walker 8 2 0;board 0 1 9 1;walker 9 5 0;");
        int[][] due = {{0, 5, -1, 7}, {2, 0, -1, 8}, {5, 0, -1, 9}};
        for (int w = 0; w < 3; w++) {
            for (int what = 0; what < 4; what++) {
                due("walker(" + w + ", " + what + ")", x.walker(w, what), due[w][what]);
            }
        }
        refusals(x, 0, 0, 0);
        due("walker(3, 0)", x.walker(3, 0), -10);
        int bad = 1;
        for (int far : FAR) {
            due("walker(" + far + ", 0)", x.walker(far, 0), -10);
            due("walker(0, " + far + ")", x.walker(0, far), -10);
            due("walker(" + far + ", " + far + ")", x.walker(far, far), -10);
            bad += 3;
        }
        due("walker(0, 4)", x.walker(0, 4), -10);
        refusals(x, bad + 1, 0, 0);
        for (int many = 0; many <= 2; many++) {
            BogBoards y = bog("last 3;" + "walker 1 0 0;".repeat(many));
            due("count(0)", y.count(0), many);
            due("walker that is one too many", y.walker(many, 0), -10);
        }
    }

    static void aGoalIsToldAsAPlace() {
        sentence("GOAL (0, LAST as it is then: told as 0, 1); walker: GOAL (1, as a PLACE)");
        for (int last = 1; last <= 7; last++) {
            BogBoards x = bog("last " + last + ";walker 1 0 0;walker 1 0 1;");
            due("walker(0, 1)", x.walker(0, 1), 0);
            due("walker(1, 1) of last " + last, x.walker(1, 1), last);
        }
    }

    static void whatAWalkerCarries() {
        sentence("walker: the BOARD he carries (2; NONE)");
        BogBoards x = bog("last 6;board 0 1 9 1;board 0 1 9 5;walker 1 0 1;walker 1 6 0;walker 1 0 1;");
        for (int w = 0; w < 3; w++) {
            due("walker(" + w + ", 2)", x.walker(w, 2), -1);
        }
        acts(x, take(0, 0), take(1, 1));
        due("walker(0, 2)", x.walker(0, 2), 0);
        due("walker(1, 2)", x.walker(1, 2), 1);
        due("walker(2, 2)", x.walker(2, 2), -1);
        acts(x, hand(0, 0, 2));
        due("walker(0, 2)", x.walker(0, 2), -1);
        due("walker(2, 2)", x.walker(2, 2), 0);
        acts(x, lay(2, 0, 1));
        due("walker(2, 2)", x.walker(2, 2), -1);
        refusals(x, 0, 0, 0);
    }

    static void aWalkerCountsTwoMoreWithABoard() {
        sentence("A WALKER counts WEIGHT, and 2 more with a BOARD");
        for (int weight = 1; weight <= 9; weight++) {
            BogBoards x = bog("last 3;board 2 1 9 1;walker " + weight + " 0 1;");
            due("walker(0, 3)", x.walker(0, 3), weight);
            acts(x, take(0, 0));
            due("walker(0, 3) with a board", x.walker(0, 3), weight + 2);
            acts(x, lay(0, 0, 1));
            due("walker(0, 3) behind it", x.walker(0, 3), weight);
        }
    }

    static void boardsAsTheyCome() {
        sentence("BOARDS 0, 1, as they come; board: BAD: -10");
        BogBoards x = bog("last 7;board 0 2 8 5;walker 3 5 1;walker 4 6 1;board 0 1 9 1;");
        int[][] due = {{5, 2, 8, 7}, {1, 1, 9, 0}};
        for (int b = 0; b < 2; b++) {
            for (int what = 0; what < 4; what++) {
                due("board(" + b + ", " + what + ")", x.board(b, what), due[b][what]);
            }
        }
        refusals(x, 0, 0, 0);
        due("board(2, 0)", x.board(2, 0), -10);
        int bad = 1;
        for (int far : FAR) {
            due("board(" + far + ", 0)", x.board(far, 0), -10);
            due("board(0, " + far + ")", x.board(0, far), -10);
            due("board(" + far + ", " + far + ")", x.board(far, far), -10);
            bad += 3;
        }
        due("board(0, 4)", x.board(0, 4), -10);
        refusals(x, bad + 1, 0, 0);
        due("board(0, 0) where there is none", bog("last 7;").board(0, 0), -10);
        due("board(1, 0) where there is one", bog("last 7;board 0 1 9 1;").board(1, 0), -10);
    }

    private static void kind(int kind, int longer, int doubled) {
        for (int length = 1; length <= 3; length++) {
            for (int bears = 1; bears <= 30; bears++) {
                BogBoards x = bog("last 7;board " + kind + " " + length + " " + bears + " 1;");
                due("board(0, 1) of kind " + kind + ", length " + length, x.board(0, 1), length + longer);
                due("board(0, 2) of kind " + kind + ", bears " + bears, x.board(0, 2), bears * doubled / 2);
            }
        }
    }

    static void plain() {
        sentence("KINDS: 0 PLAIN: LENGTH (1 .. 3), BEARS (1 .. 30)");
        kind(0, 0, 2);
    }

    static void cracked() {
        sentence("1 CRACKED (under PLAIN): BEARS half, cut");
        kind(1, 0, 1);
        due("board(0, 2), half of 1", bog("last 3;board 1 1 1 1;").board(0, 2), 0);
        due("board(0, 2), half of 29", bog("last 3;board 1 1 29 1;").board(0, 2), 14);
        due("board(0, 2), half of 30", bog("last 3;board 1 1 30 1;").board(0, 2), 15);
        due("a cracked one bears none", read(new BogBoards(), "last 3;board 1 1 1 1;walker 1 1 0;"), -3);
    }

    static void longOnes() {
        sentence("2 LONG (under PLAIN): LENGTH 1 more");
        kind(2, 1, 2);
        BogBoards x = bog("last 7;board 2 3 9 2;");
        for (int p = 1; p <= 6; p++) {
            due("firm(" + p + ")", x.firm(p), p >= 2 && p <= 5 ? 1 : 0);
        }
    }

    static void doubled() {
        sentence("3 DOUBLE (under PLAIN): BEARS twice");
        kind(3, 0, 4);
        due("board(0, 2), twice 30", bog("last 3;board 3 1 30 1;").board(0, 2), 60);
    }

    static void rope() {
        sentence("4 ROPE (under LONG): LENGTH 1 more, BEARS as told");
        kind(4, 1, 2);
    }

    static void frozen() {
        sentence("5 FROZEN (under DOUBLE): BEARS twice, LENGTH as told");
        kind(5, 0, 4);
    }

    static void aBoardLiesOnPlacesBesideOneAnother() {
        sentence("a BOARD lies on PLACES one beside the other");
        for (int length = 1; length <= 3; length++) {
            for (int at = 0; at + length - 1 <= 7; at++) {
                BogBoards x = bog("last 7;board 0 " + length + " 9 " + at + ";");
                for (int p = 1; p <= 6; p++) {
                    due("firm(" + p + ")", x.firm(p), p >= at && p < at + length ? 1 : 0);
                }
                due("board(0, 0)", x.board(0, 0), at);
            }
        }
    }

    static void theLeastPlaceOfABoard() {
        sentence("board: the least PLACE on which it lies (0; NONE: it is carried)");
        BogBoards x = bog("last 7;island 4;board 0 3 9 1;walker 1 4 1;");
        due("board(0, 0)", x.board(0, 0), 1);
        acts(x, take(0, 0));
        due("board(0, 0) when it is carried", x.board(0, 0), -1);
        due("board(0, 1) when it is carried", x.board(0, 1), 3);
        due("board(0, 2) when it is carried", x.board(0, 2), 9);
        acts(x, lay(0, 0, 0));
        due("board(0, 0), laid back", x.board(0, 0), 1);
        BogBoards y = bog("last 7;island 3;board 0 3 9 0;walker 1 3 1;");
        acts(y, take(0, 0), lay(0, 0, 1));
        due("board(0, 0), laid ahead", y.board(0, 0), 4);
    }

    static void whatIsOnABoard() {
        sentence("board: what is on it (3)");
        BogBoards x = bog("last 7;board 0 3 30 1;board 0 1 30 4;walker 9 1 1;walker 8 3 1;walker 7 4 1;");
        due("board(0, 3)", x.board(0, 3), 17);
        due("board(1, 3)", x.board(1, 3), 7);
        acts(x, walk(2, 0));
        due("board(0, 3) with one more", x.board(0, 3), 24);
        due("board(1, 3) with nobody", x.board(1, 3), 0);
        acts(x, take(1, 1));
        due("board(0, 3), who carries counts more", x.board(0, 3), 26);
        due("board(1, 3) when it is carried", x.board(1, 3), 0);
        acts(x, walk(0, 0));
        due("board(0, 3) when one has left", x.board(0, 3), 17);
        BogBoards land = bog("last 3;island 1;board 2 3 30 0;walker 1 0 1;walker 2 1 1;walker 4 3 1;");
        due("board(0, 3) on land and an island", land.board(0, 3), 7);
    }
}
