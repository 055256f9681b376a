/** The edges of what is sought: over, fewest, row, lost, leaps. */
public final class SearchEdgesTest extends Check {
    private static final String ACROSS = "last 4;island 2;board 0 1 20 1;walker 4 0 1;walker 3 4 0;";

    public static void main(String[] args) {
        runAll(SearchEdgesTest.class);
    }

    private static void fewest(String text, int want) {
        due("fewest of '" + text + "'", bog(text).fewest(), want);
    }

    private static void leaps(String text, int b, int want) {
        due("leaps(" + b + ") of '" + text + "'", bog(text).leaps(b), want);
    }

    private static void lost(String text, int b, int want) {
        due("lost(" + b + ") of '" + text + "'", bog(text).lost(b), want);
    }

    /** Goes the whole row: each act is one nearer, and behind the last one all are over. */
    private static void goesTheRow(BogBoards x) {
        int many = x.fewest();
        int[] row = new int[Math.max(0, many)];
        for (int i = 0; i < row.length; i++) {
            row[i] = x.row(i);
        }
        due("row(" + many + ")", x.row(many), -5);
        for (int i = 0; i < row.length; i++) {
            due("row(0) ahead of act " + i, x.row(0), row[i]);
            acts(x, row[i]);
            due("fewest() behind act " + i, x.fewest(), many - 1 - i);
        }
        due("over()", x.over(), 1);
        due("row(0) when all are over", x.row(0), -5);
    }

    static void allAreOver() {
        sentence("OVER: each WALKER stands at his GOAL");
        due("over(), both there", bog("last 3;walker 1 3 1;walker 1 0 0;").over(), 1);
        due("over(), the first one is not", bog("last 3;walker 1 0 1;walker 1 0 0;").over(), 0);
        due("over(), the last one is not", bog("last 3;walker 1 3 1;walker 1 0 0;walker 1 3 0;").over(), 0);
        due("over(), on an island", bog("last 3;island 1;island 2;walker 1 2 1;").over(), 0);
        due("over(), at the other end", bog("last 1;walker 1 0 1;").over(), 0);
        due("over(), a board is carried", carrying().over(), 1);
    }

    private static BogBoards carrying() {
        BogBoards x = bog("last 3;board 0 1 9 2;walker 1 3 1;");
        acts(x, take(0, 0));
        return x;
    }

    static void nobodyIsOver() {
        sentence("OVER: each WALKER (where there is none)");
        due("over()", new BogBoards().over(), 1);
        due("over() with a board", bog("last 3;board 0 1 9 1;").over(), 1);
        fewest("last 3;board 0 1 9 1;", 0);
        lost("last 3;board 0 1 9 1;", 0, 0);
        leaps("last 3;board 0 1 9 1;", 0, 0);
        leaps("last 3;board 0 1 9 1;", -1, 0);
    }

    static void overByNoAct() {
        sentence("FEWEST: the fewest ACTS by which all are OVER (none, if they are)");
        fewest("last 3;walker 1 3 1;walker 1 0 0;", 0);
        BogBoards x = bog("last 1;walker 1 0 1;");
        due("fewest()", x.fewest(), 1);
        acts(x, 8);
        due("fewest()", x.fewest(), 0);
        acts(x, 0);
        due("fewest()", x.fewest(), 1);
        x.undo();
        due("fewest() behind undo", x.fewest(), 0);
    }

    static void fewestCanNotBe() {
        sentence("None: it can not be; fewest: NONE");
        fewest("last 2;walker 1 0 1;", -1);
        fewest("last 2;walker 1 2 1;walker 1 0 1;", -1);
        fewest("last 2;board 0 1 3 1;walker 4 0 1;", -1);
        fewest("last 2;board 0 1 4 1;walker 4 0 1;", 2);
        fewest("last 2;board 5 1 2 1;walker 4 0 1;", 2);
        fewest("last 2;board 1 1 7 1;walker 4 0 1;", -1);
        fewest("last 2;board 1 1 8 1;walker 4 0 1;", 2);
        BogBoards x = bog("last 2;walker 1 0 1;");
        due("fewest()", x.fewest(), -1);
        refusals(x, 0, 0, 0);
    }

    static void fewestActs() {
        sentence("FEWEST: the fewest ACTS (0 to 3)");
        fewest(allIslands(7) + "walker 1 0 1;", 7);
        fewest(allIslands(7) + "walker 1 0 1;walker 1 0 1;walker 1 7 0;", 21);
        fewest("last 3;board 2 1 1 1;walker 1 0 1;", 3);
        fewest("last 4;island 2;board 0 1 20 1;walker 1 0 1;", 6);
        fewest(ACROSS, 12);
        // A rope is brought by two: one holds its other end.
        fewest("last 5;island 3;board 4 1 9 1;walker 1 0 1;", -1);
        fewest("last 2;island 1;board 5 1 9 0;walker 1 0 1;", 2);
    }

    static void theRowIsGone() {
        sentence("ROW: of all such ones the first; row: ACT i (0 on) of ROW");
        goesTheRow(bog(ACROSS));
        goesTheRow(bog(allIslands(7) + "walker 1 0 1;walker 1 0 1;walker 1 7 0;"));
        goesTheRow(bog("last 6;island 2;board 0 1 9 1;board 2 1 9 3;walker 4 0 1;walker 3 0 1;walker 2 6 0;"));
        goesTheRow(bog("last 6;island 2;island 4;board 0 1 5 1;walker 3 0 1;walker 2 6 0;"));
        goesTheRow(new BogBoards());
    }

    static void theFirstByNumbers() {
        sentence("ROW: the first (by ACTS as numbers)");
        BogBoards x = bog("last 2;island 1;walker 1 0 1;walker 1 2 0;walker 1 1 1;");
        int[] row = {walk(0, 1), walk(0, 1), walk(1, 0), walk(1, 0), walk(2, 1)};
        due("fewest()", x.fewest(), row.length);
        for (int i = 0; i < row.length; i++) {
            due("row(" + i + ")", x.row(i), row[i]);
        }
        BogBoards y = bog(ACROSS);
        int[] across = {8, 8, 512, 257, 8, 8, 64, 64, 576, 320, 64, 64};
        due("fewest()", y.fewest(), across.length);
        for (int i = 0; i < across.length; i++) {
            due("row(" + i + ")", y.row(i), across[i]);
        }
        // Either of two may carry the board on: the one with the least number does.
        BogBoards z = bog("last 4;island 2;board 0 1 9 1;walker 4 0 1;walker 3 0 1;");
        int[] both = {8, 8, 72, 72, 512, 257, 8, 8, 72, 72};
        due("fewest()", z.fewest(), both.length);
        for (int i = 0; i < both.length; i++) {
            due("row(" + i + ")", z.row(i), both[i]);
        }
    }

    static void aRowHasNotSoMany() {
        sentence("row: -5: not so many, none. BAD: -10");
        BogBoards x = bog("last 2;island 1;walker 1 0 1;");
        due("row(1)", x.row(1), 8);
        due("row(2)", x.row(2), -5);
        due("row(MAX)", x.row(Integer.MAX_VALUE), -5);
        BogBoards none = bog("last 2;walker 1 0 1;");
        due("row(0) of none", none.row(0), -5);
        due("row(0) of nobody", new BogBoards().row(0), -5);
        refusals(x, 0, 0, 0);
        due("row(-1)", x.row(-1), -10);
        due("row(-5)", x.row(-5), -10);
        due("row(MIN)", x.row(Integer.MIN_VALUE), -10);
        due("row(-1) of none", none.row(-1), -10);
        refusals(x, 3, 0, 0);
        refusals(none, 1, 0, 0);
    }

    static void askingChangesNothing() {
        sentence("fewest, row, lost, leaps: told; nothing is done");
        BogBoards x = bog(ACROSS);
        acts(x, 8);
        long before = x.digest();
        x.fewest();
        x.row(3);
        x.lost(0);
        x.leaps(-1);
        x.leaps(0);
        x.wrong(-1);
        due("digest", x.digest(), before);
        due("fewest()", x.fewest(), 11);
        due("row(0)", x.row(0), 8);
        due("row(1)", x.row(1), 512);
        x.lost(0);
        due("row(2) behind lost", x.row(2), 257);
        due("board(0, 0)", x.board(0, 0), 1);
    }

    static void aBoardThatIsLost() {
        sentence("LOST: FEWEST without a BOARD (it is nowhere)");
        lost("last 2;board 0 1 9 1;walker 1 0 1;", 0, -1);
        lost("last 2;board 0 1 9 1;walker 1 2 1;", 0, 0);
        lost("last 2;island 1;board 0 1 9 1;walker 1 0 1;", 0, 2);
        lost("last 5;board 0 2 9 1;board 0 2 9 3;walker 1 0 1;", 0, -1);
        lost("last 5;board 0 2 9 1;board 0 2 9 3;walker 1 0 1;", 1, -1);
        // The other one is laid where the lost one lay.
        lost("last 3;island 1;board 0 1 9 2;board 0 1 9 0;walker 1 1 1;", 0, 4);
        lost("last 3;island 1;board 0 1 9 2;board 0 1 9 0;walker 1 1 1;", 1, 2);
    }

    static void aBoardThatIsCarriedIsLost() {
        sentence("LOST: (it is nowhere: also if it is carried)");
        BogBoards x = bog("last 3;island 1;board 0 1 9 0;board 5 1 2 2;walker 4 1 1;");
        due("fewest()", x.fewest(), 2);
        acts(x, take(0, 0));
        due("lost(0): he is light enough without it", x.lost(0), 2);
        due("walker(0, 2)", x.walker(0, 2), 0);
        BogBoards y = bog("last 3;island 1;board 0 1 9 0;walker 4 1 1;");
        acts(y, take(0, 0));
        due("fewest()", y.fewest(), 3);
        due("lost(0)", y.lost(0), -1);
        BogBoards z = bog("last 3;island 1;board 0 1 9 0;board 0 1 9 2;walker 4 1 1;");
        acts(z, take(0, 0));
        due("lost(0)", z.lost(0), 2);
        due("lost(1)", z.lost(1), 3);
    }

    static void whoStandsOnWhatIsLost() {
        sentence("LOST: (somebody who stands on it then: none)");
        lost("last 3;island 2;board 0 1 9 1;walker 1 1 1;", 0, -1);
        lost("last 3;island 2;board 0 1 9 1;board 0 1 9 2;walker 1 1 1;", 1, 2);
        lost("last 3;island 2;board 0 1 9 1;walker 1 0 0;walker 1 1 1;", 0, -1);
        lost("last 3;board 0 3 9 1;walker 1 3 1;walker 1 3 1;walker 1 3 0;", 0, -1);
        lost("last 3;board 0 3 9 1;walker 1 3 1;walker 1 2 1;", 0, -1);
        lost("last 3;board 0 1 9 3;walker 1 3 1;", 0, -1);
        lost("last 3;board 0 1 9 0;walker 1 0 0;", 0, -1);
        lost("last 3;island 1;island 2;board 0 1 9 1;walker 1 1 1;", 0, -1);
        leaps("last 2;board 0 1 9 1;walker 1 1 1;", 0, -1);
        leaps("last 2;board 0 1 9 1;walker 1 1 1;", -1, 0);
        leaps("last 3;board 0 1 9 3;walker 1 3 1;", 0, -1);
    }

    static void aBoardThatIsNotThere() {
        sentence("lost: NONE. BAD; leaps: BAD: a BOARD that is not there (but NONE)");
        BogBoards x = bog("last 3;board 0 1 9 1;walker 1 3 1;");
        due("lost(0)", x.lost(0), 0);
        due("lost(1)", x.lost(1), -2);
        due("lost(-1)", x.lost(-1), -2);
        due("lost(MAX)", x.lost(Integer.MAX_VALUE), -2);
        due("lost(MIN)", x.lost(Integer.MIN_VALUE), -2);
        refusals(x, 4, 0, 0);
        due("leaps(0)", x.leaps(0), 0);
        due("leaps(-1)", x.leaps(-1), 0);
        refusals(x, 4, 0, 0);
        due("leaps(1)", x.leaps(1), -2);
        due("leaps(-2)", x.leaps(-2), -2);
        due("leaps(MAX)", x.leaps(Integer.MAX_VALUE), -2);
        due("leaps(MIN)", x.leaps(Integer.MIN_VALUE), -2);
        refusals(x, 8, 0, 0);
        BogBoards two = bog("last 3;board 0 1 9 1;board 0 1 9 2;walker 1 3 1;");
        due("lost(1) of two", two.lost(1), 0);
        due("leaps(1) of two", two.leaps(1), 0);
        due("lost(2) of two", two.lost(2), -2);
        due("leaps(2) of two", two.leaps(2), -2);
        BogBoards none = new BogBoards();
        due("lost(0) of none", none.lost(0), -2);
        due("leaps(0) of none", none.leaps(0), -2);
        refusals(none, 2, 0, 0);
    }

    static void threeLeapsAtMost() {
        sentence("LEAPS: the fewest LEAPS (3 at most); none: not with three");
        leaps("last 1;walker 1 0 1;", -1, 0);
        leaps("last 2;walker 1 0 1;", -1, 1);
        leaps("last 4;island 2;walker 1 0 1;", -1, 2);
        leaps("last 6;island 2;island 4;walker 1 0 1;", -1, 3);
        leaps("last 2;walker 1 0 1;walker 1 2 0;", -1, 2);
        leaps("last 2;walker 1 0 1;walker 1 2 0;walker 1 0 1;", -1, 3);
        leaps("last 4;island 2;walker 1 0 1;walker 1 2 1;", -1, 3);
        leaps("last 4;island 2;walker 1 0 1;walker 1 0 1;", -1, -1);
        leaps("last 7;island 2;island 4;island 6;walker 1 0 1;", -1, 3);
        leaps("last 6;island 2;island 4;walker 1 0 1;walker 1 4 1;", -1, -1);
    }

    static void aLeapIsTwoPlaces() {
        sentence("4 LEAP: two PLACES, to a FIRM one");
        leaps("last 3;walker 1 0 1;", -1, -1);
        leaps("last 3;island 1;walker 1 0 1;", -1, 1);
        leaps("last 3;island 2;walker 1 0 1;", -1, 1);
        leaps("last 4;walker 1 0 1;", -1, -1);
        leaps("last 4;island 2;walker 1 4 0;", -1, 2);
        leaps("last 4;island 3;walker 1 4 0;", -1, -1);
    }

    static void aLeapGoesOverOneThatIsNotFirm() {
        sentence("4 LEAP: over one that is not FIRM");
        // The frozen board is too weak to be walked on, but FIRM: nobody leaps over it.
        leaps("last 2;board 5 1 1 1;walker 4 0 1;", -1, -1);
        leaps("last 2;board 5 1 1 1;walker 4 0 1;", 0, 1);
        leaps("last 2;board 5 1 2 1;walker 4 0 1;", -1, 0);
        // The plain one is taken up, then he leaps.
        leaps("last 2;board 0 1 1 1;walker 4 0 1;", -1, 1);
        leaps("last 4;island 2;island 3;board 5 1 1 1;walker 4 0 1;", -1, -1);
    }

    static void aLeapMustBeWell() {
        sentence("Behind it all must be WELL (behind a LEAP)");
        leaps("last 4;board 5 1 1 2;walker 3 0 1;", -1, -1);
        leaps("last 4;board 5 1 1 2;walker 2 0 1;", -1, 2);
        leaps("last 4;board 0 1 3 2;walker 3 0 1;", -1, 2);
        leaps("last 4;board 5 1 2 2;walker 3 0 1;walker 2 2 0;", -1, 3);
        leaps("last 4;board 5 1 2 2;walker 3 0 1;walker 2 2 1;", -1, 3);
    }

    static void leapsAreFewestNotActs() {
        sentence("LEAPS: the fewest LEAPS among ACTS by which all can be OVER");
        // By two leaps it would be two acts; by none it is six.
        leaps("last 4;island 2;board 0 1 20 1;walker 4 0 1;", -1, 0);
        leaps("last 4;island 2;board 0 1 20 1;walker 4 0 1;", 0, 2);
        BogBoards x = bog("last 4;island 2;board 0 1 20 1;walker 4 0 1;");
        due("fewest()", x.fewest(), 6);
        due("leaps(-1)", x.leaps(-1), 0);
        due("lost(0)", x.lost(0), -1);
        due("leaps(0)", x.leaps(0), 2);
    }

    static void leapsWithoutABoardThatIsCarried() {
        sentence("LEAPS: without a BOARD (NONE: with all)");
        BogBoards x = bog("last 4;island 1;board 0 1 9 0;walker 4 1 1;");
        acts(x, take(0, 0));
        due("leaps(-1)", x.leaps(-1), 1);
        due("leaps(0)", x.leaps(0), -1);
        BogBoards y = bog("last 4;island 1;board 0 1 9 0;board 0 1 9 2;walker 4 1 1;");
        acts(y, take(0, 0));
        due("leaps(-1)", y.leaps(-1), 0);
        due("leaps(0)", y.leaps(0), 1);
        due("leaps(1)", y.leaps(1), 1);
        due("walker(0, 2)", y.walker(0, 2), 0);
    }

    static void whatWasSoughtGoesWithTheBog() {
        sentence("FEWEST, LOST, LEAPS: from how it is now (behind act, undo, read, from)");
        BogBoards x = bog("last 2;board 0 1 9 1;walker 1 0 1;");
        due("fewest()", x.fewest(), 2);
        due("lost(0)", x.lost(0), -1);
        due("leaps(0)", x.leaps(0), 1);
        x.image(0);
        acts(x, 8);
        due("fewest() behind act", x.fewest(), 1);
        due("leaps(0) behind act", x.leaps(0), -1);
        acts(x, 8);
        due("fewest() behind act", x.fewest(), 0);
        due("lost(0) behind act", x.lost(0), 0);
        due("leaps(0) behind act", x.leaps(0), 0);
        x.undo();
        due("fewest() behind undo", x.fewest(), 1);
        due("row(0) behind undo", x.row(0), 8);
        due("lost(0) behind undo", x.lost(0), -1);
        x.from(0);
        due("fewest() behind from", x.fewest(), 2);
        due("row(1) behind from", x.row(1), 8);
        due("leaps(0) behind from", x.leaps(0), 1);
        // Once it is taken up, there is no place for the board that reaches over land.
        read(x, "last 2;board 0 2 9 1;walker 1 0 1;");
        due("leaps(-1) behind read", x.leaps(-1), 0);
        x.image(0);
        acts(x, take(0, 0));
        due("leaps(-1) behind act", x.leaps(-1), 1);
        due("fewest() behind act", x.fewest(), -1);
        x.undo();
        due("leaps(-1) behind undo", x.leaps(-1), 0);
        acts(x, take(0, 0));
        due("leaps(-1) behind act", x.leaps(-1), 1);
        x.from(0);
        due("leaps(-1) behind from", x.leaps(-1), 0);
        BogBoards y = bog("last 2;board 5 1 1 1;walker 4 0 1;");
        due("fewest()", y.fewest(), -1);
        due("lost(0)", y.lost(0), -1);
        due("leaps(-1)", y.leaps(-1), -1);
        due("leaps(0)", y.leaps(0), 1);
        read(y, "last 3;island 1;board 0 1 9 2;walker 1 1 0;");
        due("fewest() behind read", y.fewest(), 1);
        due("row(0) behind read", y.row(0), 0);
        due("lost(0) behind read", y.lost(0), 1);
        due("leaps(-1) behind read", y.leaps(-1), 0);
        due("leaps(0) behind read", y.leaps(0), 0);
    }
}
