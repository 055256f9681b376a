/** The edges of the mist: what is seen, what is done by it, who is lost; wet years and THE FRACTION. */
public final class MistEdgesTest extends Check {
    public static void main(String[] args) {
        runAll(MistEdgesTest.class);
    }

    private static void mist(BogBoards x, int rounds, int loser, int there, int gone) {
        due("mist(" + rounds + ", 0), who was lost", x.mist(rounds, 0), loser);
        due("mist(" + rounds + ", 1), how many are there", x.mist(rounds, 1), there);
        due("mist(" + rounds + ", 2), rounds gone", x.mist(rounds, 2), gone);
    }

    private static void mist(String text, String rule, int rounds, int loser, int there, int gone) {
        BogBoards x = bog(text, rule);
        long before = x.digest();
        mist(x, rounds, loser, there, gone);
        due("digest behind '" + rule + "'", x.digest(), before);
    }

    private static void fraction(BogBoards x, long[] above, long[] below) {
        due("sign(0)", x.sign(0), above.length == 0 ? 0 : 1);
        due("sign(1)", x.sign(1), above.length);
        due("sign(2)", x.sign(2), below.length);
        for (int i = 0; i <= 4; i++) {
            due("limb(0, " + i + ")", x.limb(0, i), i < above.length ? above[i] : -1);
            due("limb(1, " + i + ")", x.limb(1, i), i < below.length ? below[i] : -1);
        }
    }

    private static long[] limbs(String number) {
        java.math.BigInteger n = new java.math.BigInteger(number);
        long[] limbs = new long[(n.bitLength() + 29) / 30];
        for (int i = 0; i < limbs.length; i++) {
            limbs[i] = n.shiftRight(30 * i).longValue() & 1073741823;
        }
        return limbs;
    }

    /** The walker that a bog's rule loses at once: one wet place ahead. */
    private static BogBoards losing() {
        return bog("last 2;walker 1 0 1;", "1");
    }

    private static void years(BogBoards x, int n, int w, int k, String above, String below) {
        due("years(" + n + ", " + w + ", " + k + ")", x.years(n, w, k), 1);
        fraction(x, limbs(above), limbs(below));
    }

    static void roundsAreZeroToForty() {
        sentence("IN MIST round by round (n of them, 0 .. 40); mist: BAD");
        BogBoards x = bog(allIslands(7) + "walker 1 0 1;", "1");
        for (int n = 0; n <= 40; n++) {
            due("mist(" + n + ", 2)", x.mist(n, 2), n);
            due("mist(" + n + ", 1)", x.mist(n, 1), n >= 7 ? 1 : 0);
        }
        int[] bad = {-1, 41, 255, Integer.MIN_VALUE, Integer.MAX_VALUE};
        for (int n : bad) {
            due("mist(" + n + ", 0)", x.mist(n, 0), -2);
        }
        refusals(x, bad.length, 0, 0);
    }

    static void whatIsZeroToTwo() {
        sentence("mist: who was LOST (0), how many are at their GOALS (1), rounds gone (2). BAD");
        BogBoards x = losing();
        mist(x, 40, 0, 0, 1);
        int[] bad = {-1, 3, 4, Integer.MIN_VALUE, Integer.MAX_VALUE};
        for (int what : bad) {
            due("mist(0, " + what + ")", x.mist(0, what), -2);
            due("mist(41, " + what + ")", x.mist(41, what), -2);
        }
        refusals(x, 2 * bad.length, 0, 0);
    }

    static void noRoundAtAll() {
        sentence("IN MIST round by round (n of them: none)");
        mist("last 2;walker 1 0 1;", "1", 0, -1, 0, 0);
        mist("last 2;walker 1 2 1;walker 1 0 1;", "1", 0, -1, 1, 0);
    }

    static void nobodyInMist() {
        sentence("IN MIST each WALKER (where there is none)");
        mist("last 2;", "1", 40, -1, 0, 40);
        BogBoards x = new BogBoards();
        mist(x, 40, -1, 0, 40);
    }

    static void byFourLeftOver() {
        sentence("by 4 left over (0 at least): 0 he stays, 1 WALKS, 2 LAYS, 3 TAKES UP");
        // He carries a board: one place ahead is wet, one back lies another board.
        String text = "last 6;island 3;board 0 1 9 1;board 0 1 9 2;walker 1 3 1;";
        for (int value = -9; value <= 9; value++) {
            int choice = Math.floorMod(value, 4);
            BogBoards x = bog(text, "" + value);
            due("mist by " + value + ", who was lost", x.mist(1, 0), choice == 1 ? 0 : -1);
            // What was done in the round shows in the one behind it: a walk, if he carries a board.
            rule(x, "(t=0)*(" + value + ")+t*c");
            due("mist by " + value + ", then a walk if he carries", x.mist(2, 0), choice == 1 || choice == 3 ? 0 : -1);
            acts(x, take(0, 1));
            rule(x, "(t=0)*(" + value + ")+t");
            due("mist by " + value + " with a board, then a walk onto it", x.mist(2, 0), choice == 2 ? -1 : 0);
        }
    }

    static void whoIsAtHisGoalStays() {
        sentence("0 he stays (at his GOAL, too, whatever it tells)");
        for (String rule : new String[] {"0", "1", "2", "3", "-1", "5"}) {
            mist("last 2;board 0 1 9 1;walker 1 2 1;walker 1 0 0;", rule, 40, -1, 2, 40);
        }
        // He takes up nothing at his goal, so the other one goes over it.
        mist("last 2;board 0 1 9 1;walker 1 2 1;walker 1 0 1;", "3-2*k", 40, -1, 2, 40);
    }

    static void whoWalksGoesTowardHisGoal() {
        sentence("1 WALKS toward his GOAL");
        mist(allIslands(3) + "walker 1 1 1;walker 1 2 0;walker 1 0 0;", "1", 1, -1, 1, 1);
        mist(allIslands(3) + "walker 1 1 1;walker 1 2 0;walker 1 0 0;", "1", 2, -1, 3, 2);
        mist(allIslands(3) + "walker 1 1 0;walker 1 2 1;", "1", 1, -1, 2, 1);
    }

    static void aWalkToAPlaceThatIsNotFirm() {
        sentence("a WALK to a PLACE that is not FIRM, LOSES him: then it ends");
        mist("last 2;walker 1 0 1;", "1", 40, 0, 0, 1);
        mist("last 3;island 1;walker 1 0 1;", "1", 40, 0, 0, 2);
        mist("last 3;island 1;walker 1 0 1;", "1", 1, -1, 0, 1);
        mist("last 3;island 1;walker 1 0 1;", "1", 2, 0, 0, 2);
        mist("last 4;island 3;walker 1 4 0;", "5", 40, 0, 0, 2);
    }

    static void aWalkThatWouldNotBeWell() {
        sentence("what would not be WELL (3) LOSES him (a WALK)");
        mist("last 2;board 0 1 3 1;walker 4 0 1;", "1", 40, 0, 0, 1);
        mist("last 2;board 0 1 4 1;walker 4 0 1;", "1", 40, -1, 1, 40);
        mist("last 3;board 0 2 8 1;walker 4 0 1;walker 5 0 1;", "1", 40, 1, 0, 1);
        mist("last 3;board 0 2 9 1;walker 4 0 1;walker 5 0 1;", "1", 40, -1, 2, 40);
        // It breaks below him on land: he is not at his goal.
        mist("last 2;island 1;board 0 1 3 2;walker 4 1 1;", "1", 40, 0, 0, 1);
    }

    static void takingUpThatWouldNotBeWell() {
        sentence("what would not be WELL (3) LOSES him (TAKES UP)");
        String text = "last 4;island 1;board 0 1 # 2;board 0 1 9 3;walker 4 2 0;";
        mist(text.replace("#", "5"), "3", 40, 0, 0, 1);
        mist(text.replace("#", "6"), "3", 40, -1, 0, 40);
    }

    static void whatCanNotBeIsStaying() {
        sentence("what can not be (2) is staying (LAYS, TAKES UP)");
        mist("last 3;walker 1 0 1;", "2", 40, -1, 0, 40);
        mist("last 3;walker 1 0 1;", "3", 40, -1, 0, 40);
        // A board ahead alone, a frozen one, one with somebody on it: whoever took it up would walk.
        mist("last 3;board 0 1 9 1;walker 1 0 1;", "3*!c+c", 40, -1, 0, 40);
        mist("last 3;island 1;island 2;board 5 1 9 1;walker 1 2 1;", "3*!c+c", 40, -1, 0, 40);
        mist("last 3;island 2;board 0 1 9 1;walker 1 2 1;walker 1 1 1;", "(3*!c+c)*!k", 40, -1, 0, 40);
        // A board lies where his would lie: whoever laid it would walk.
        BogBoards x = bog("last 3;island 1;board 0 1 9 0;board 0 1 9 2;walker 1 1 1;", "2*c+!c");
        acts(x, take(0, 0));
        mist(x, 40, -1, 0, 40);
        BogBoards land = bog("last 2;island 1;board 0 1 9 0;walker 1 1 1;", "2*c+!c");
        acts(land, take(0, 0));
        mist(land, 40, -1, 0, 40);
    }

    static void whoLaysLaysTowardHisGoal() {
        sentence("2 LAYS his BOARD that way");
        BogBoards x = bog("last 4;island 2;board 0 1 9 1;walker 1 2 1;");
        acts(x, take(0, 0));
        rule(x, "2-t");
        mist(x, 2, -1, 0, 2);
        rule(x, "2*c+!c");
        mist(x, 40, -1, 1, 40);
        BogBoards y = bog("last 4;island 2;board 0 1 9 3;walker 1 2 0;");
        acts(y, take(0, 0));
        rule(y, "2*c+!c");
        mist(y, 40, -1, 1, 40);
        BogBoards z = bog("last 5;island 3;board 0 2 9 1;walker 1 3 1;");
        acts(z, take(0, 0));
        // Two places do not go where one wet one is: he stays, and is lost by the walk.
        rule(z, "2-t");
        mist(z, 40, 0, 0, 2);
    }

    static void heTakesUpWhatLiesAwayFromHisGoal() {
        sentence("3 TAKES UP the least BOARD that lies beside him away from it");
        // Whoever took one up walks from then on.
        String rule = "3*!t+(t>0)*c";
        mist("last 4;island 2;board 0 1 9 3;board 0 1 9 1;walker 1 2 1;", rule, 40, -1, 1, 40);
        mist("last 4;island 2;board 0 1 9 3;board 0 1 9 1;walker 1 2 0;", rule, 40, -1, 1, 40);
        // Ahead alone lies one: he stays.
        mist("last 4;island 2;board 0 1 9 3;walker 1 2 1;", rule, 40, -1, 0, 40);
        mist("last 4;island 2;board 0 1 9 1;walker 1 2 0;", rule, 40, -1, 0, 40);
        // A long one lies beside him by its end; two places away none does.
        mist("last 7;island 4;island 5;island 6;board 0 3 9 1;walker 1 4 1;", rule, 4, -1, 1, 4);
        mist("last 7;island 1;island 2;island 3;board 0 3 9 4;walker 1 3 0;", rule, 4, -1, 1, 4);
        mist("last 7;island 4;island 5;island 6;board 0 3 9 1;walker 1 5 1;", rule, 40, -1, 0, 40);
        // Beyond the end of the bog lies none.
        mist("last 3;island 1;island 2;walker 1 0 1;board 0 1 9 3;", rule, 40, -1, 0, 40);
        mist("last 3;island 1;island 2;walker 1 3 0;board 0 1 9 0;", rule, 40, -1, 0, 40);
    }

    static void eachWalkerWithEachBoard() {
        sentence("each WALKER: 2 LAYS his BOARD, 3 TAKES UP the BOARD (whichever they are)");
        for (int w = 0; w <= 2; w++) {
            for (int b = 0; b <= 1; b++) {
                for (int goal = 0; goal <= 1; goal++) {
                    StringBuilder text = new StringBuilder("last 5;island " + (goal == 1 ? 3 : 2) + ";");
                    for (int i = 0; i <= 2; i++) {
                        text.append(i == w ? goal == 1 ? "walker 1 3 1;" : "walker 1 2 0;" : "walker 1 0 0;");
                    }
                    for (int i = 0; i <= 1; i++) {
                        text.append("board 0 1 9 ").append(i == b ? goal == 1 ? 2 : 3 : 0).append(';');
                    }
                    // He takes it up behind him, lays it ahead, and goes over it.
                    mist(text.toString(), "3-t+(t>2)", 4, -1, 3, 4);
                }
            }
        }
    }

    static void eachByNumbers() {
        sentence("each WALKER, by numbers, works THE RULE");
        // The first one goes onto the weak board, then it is too much for the second one.
        mist("last 2;board 0 1 8 1;walker 3 0 1;walker 6 0 1;", "1", 40, 1, 0, 1);
        mist("last 2;board 0 1 8 1;walker 6 0 1;walker 3 0 1;", "1", 40, 1, 0, 1);
        mist("last 2;board 0 1 8 1;walker 6 1 1;walker 3 0 1;", "1", 40, -1, 2, 40);
        mist("last 2;board 0 1 8 1;walker 3 0 1;walker 6 1 1;", "1", 40, 0, 0, 1);
        // Who comes behind the lost one does nothing any more.
        mist("last 2;board 0 1 5 1;walker 6 0 1;walker 3 1 1;", "1", 40, 0, 0, 1);
        mist("last 2;board 0 1 5 1;walker 3 1 1;walker 6 0 1;", "1", 40, 1, 1, 1);
    }

    static void whoWasLost() {
        sentence("Told: who was LOST");
        mist("last 3;island 1;walker 1 0 1;board 5 1 1 2;walker 1 3 1;walker 4 1 1;", "1", 40, 2, 1, 1);
        mist("last 2;walker 1 2 1;walker 1 0 1;walker 1 0 1;", "1", 40, 1, 1, 1);
        mist("last 2;walker 1 2 1;walker 1 0 1;walker 1 0 1;", "k=2", 40, 2, 1, 1);
        mist("last 2;walker 1 2 1;walker 1 0 1;walker 1 0 1;", "k=3", 40, -1, 1, 40);
    }

    static void howManyAreAtTheirGoals() {
        sentence("Told: how many are at their GOALS");
        mist("last 1;walker 1 1 1;walker 1 0 0;walker 1 1 1;", "0", 3, -1, 3, 3);
        mist("last 1;walker 1 1 0;walker 1 0 1;walker 1 0 1;", "k>0", 3, -1, 2, 3);
        mist("last 1;walker 1 1 0;walker 1 0 1;walker 1 0 1;", "0", 3, -1, 0, 3);
    }

    static void roundsGone() {
        sentence("Told: rounds gone (the one in which one was LOST, too)");
        mist("last 2;walker 1 0 1;", "t=0", 40, 0, 0, 1);
        mist("last 2;walker 1 0 1;", "t=7", 40, 0, 0, 8);
        mist("last 2;walker 1 0 1;", "t=39", 40, 0, 0, 40);
        mist("last 2;walker 1 0 1;", "t=39", 39, -1, 0, 39);
        mist("last 2;walker 1 0 1;", "t=40", 40, -1, 0, 40);
        // Also when all have come there long ago.
        mist("last 1;walker 1 0 1;", "1", 40, -1, 1, 40);
    }

    static void theRoundsAreCountedFromZero() {
        sentence("t (the round, 0 on)");
        mist("last 1;walker 1 0 1;", "t=0", 1, -1, 1, 1);
        mist("last 1;walker 1 0 1;", "t=1", 1, -1, 0, 1);
        mist("last 1;walker 1 0 1;", "t=1", 2, -1, 1, 2);
        mist("last 1;walker 1 0 1;", "t", 1, -1, 0, 1);
        mist("last 1;walker 1 0 1;", "t", 2, -1, 1, 2);
    }

    static void whetherThePlaceAheadIsFirm() {
        sentence("a (1, if the PLACE next to his, toward his GOAL, is FIRM; else 0)");
        mist("last 1;walker 1 0 1;", "a=1", 1, -1, 1, 1);
        mist("last 2;walker 1 0 1;", "a", 40, -1, 0, 40);
        mist("last 2;walker 1 0 1;", "!a", 40, 0, 0, 1);
        mist("last 2;island 1;walker 1 0 1;walker 1 2 0;", "a", 2, -1, 2, 2);
        mist("last 2;board 0 1 1 1;walker 1 0 1;", "a", 2, -1, 1, 2);
        // FIRM is not WELL.
        mist("last 2;board 0 1 1 1;walker 2 0 1;", "a", 40, 0, 0, 1);
        // What lies behind him does not count.
        mist("last 4;island 1;island 2;walker 1 2 1;", "a", 40, -1, 0, 40);
        mist("last 4;island 3;island 2;walker 1 2 0;", "a", 40, -1, 0, 40);
    }

    static void howManyStandThere() {
        sentence("n (how many stand there)");
        String two = "last 2;island 1;walker 1 0 1;walker 1 1 1;walker 1 1 1;";
        mist(two, "!k*(n=2)", 1, -1, 0, 1);
        mist(two, "!k*(n=2)", 2, -1, 0, 2);
        mist(two, "!k*(n=2)+!k*(t=1)*(n=0)", 2, -1, 1, 2);
        mist("last 1;walker 1 0 1;walker 1 1 1;", "n=1", 1, -1, 2, 1);
        mist("last 1;walker 1 0 1;walker 1 0 1;", "n=0", 1, -1, 1, 1);
        mist("last 1;walker 1 0 1;walker 1 0 1;", "n=1", 1, -1, 0, 1);
        mist("last 1;walker 1 0 1;walker 1 0 1;", "n=k", 1, -1, 2, 1);
        mist("last 2;island 1;walker 1 1 1;walker 1 0 0;", "n=0", 1, -1, 2, 1);
        mist("last 2;island 1;walker 1 1 0;walker 1 0 0;", "n", 1, -1, 2, 1);
    }

    static void whetherHeCarries() {
        sentence("c (1, if he carries a BOARD)");
        BogBoards x = bog("last 1;board 0 1 9 0;board 0 1 9 1;walker 1 1 0;walker 1 1 0;", "c");
        mist(x, 1, -1, 0, 1);
        acts(x, take(1, 0));
        mist(x, 1, -1, 1, 1);
        rule(x, "c=1&k");
        mist(x, 1, -1, 1, 1);
        rule(x, "c=1&!k");
        mist(x, 1, -1, 0, 1);
        acts(x, hand(1, 0, 0));
        mist(x, 1, -1, 1, 1);
    }

    static void whetherHeMayTakeUp() {
        sentence("b (1, if a BOARD he may TAKE UP lies beside him away from his GOAL)");
        String text = "last 3;island 1;island 2;board # 1 9 0;walker 1 1 1;";
        for (int kind : new int[] {0, 1, 3}) {
            mist(text.replace("#", "" + kind), "b=1|t", 2, -1, 1, 2);
        }
        mist(text.replace("#", "5"), "b=1|t", 2, -1, 0, 2);
        mist(text.replace("#", "5"), "b", 40, -1, 0, 40);
        mist("last 3;island 1;island 2;walker 1 1 1;", "b", 40, -1, 0, 40);
        // It lies ahead; somebody stands on it; it would be too much for what he stands on.
        mist("last 3;island 1;island 2;board 0 1 9 2;walker 1 1 1;", "b", 40, -1, 0, 40);
        mist("last 3;island 1;board 0 1 9 0;walker 1 1 0;", "b", 40, -1, 0, 40);
        mist("last 3;island 1;island 2;board 0 1 9 0;walker 1 1 1;walker 1 0 0;", "b", 40, -1, 1, 40);
        mist("last 4;board 0 1 9 1;board 0 1 5 2;island 3;walker 4 2 1;", "b", 40, -1, 0, 40);
        mist("last 4;board 0 1 9 1;board 0 1 6 2;island 3;walker 4 2 1;", "b", 1, -1, 0, 1);
        mist("last 4;board 0 1 9 1;board 0 1 6 2;island 3;walker 4 2 1;", "b|t", 2, -1, 1, 2);
    }

    static void aRopeNeedsAnotherOne() {
        sentence("b: a BOARD he may TAKE UP (a ROPE, if somebody else stands beside its other end)");
        mist("last 5;island 3;island 4;board 4 1 9 1;walker 1 3 1;", "b", 40, -1, 0, 40);
        mist("last 5;island 3;island 4;board 4 1 9 1;walker 1 3 1;walker 1 0 0;", "b|t", 2, -1, 2, 2);
        mist("last 5;island 3;island 4;board 4 1 9 1;walker 1 3 1;walker 1 0 0;", "3*b", 1, -1, 1, 1);
        // With the other one's help he lays it ahead and goes over it, alone he is lost by the walk.
        mist("last 6;island 3;board 4 1 9 1;walker 1 3 1;walker 1 0 0;", "3*!t+2*c+(t>1)", 5, -1, 2, 5);
        mist("last 6;island 3;board 4 1 9 1;walker 1 3 1;", "3*!t+2*c+(t>1)", 40, 0, 0, 3);
    }

    static void whoCarriesMayTakeUpNone() {
        sentence("b: a BOARD he may TAKE UP (he carries none)");
        BogBoards x = bog("last 4;island 2;island 3;board 0 1 9 1;board 0 1 9 4;walker 1 2 1;walker 1 3 1;");
        acts(x, take(1, 1));
        rule(x, "b*!k*3+c*!k");
        mist(x, 2, -1, 0, 2);
        mist(x, 3, -1, 1, 3);
        rule(x, "b&!k");
        mist(x, 1, -1, 0, 1);
        acts(x, hand(1, 1, 0));
        due("why(take up another)", x.why(take(0, 0)), 2);
        rule(x, "!b&!k");
        mist(x, 2, -1, 1, 2);
    }

    static void theNumberOfAWalker() {
        sentence("k (his number)");
        for (int k = 0; k <= 2; k++) {
            mist("last 2;walker 1 0 1;walker 1 0 1;walker 1 0 1;", "k=" + k, 40, k, 0, 1);
        }
        mist("last 2;walker 1 0 1;walker 1 0 1;walker 1 0 1;", "k", 40, 1, 0, 1);
        mist("last 2;walker 1 0 1;walker 1 0 1;walker 1 0 1;", "k/2", 40, 2, 0, 1);
    }

    static void nothingChangesByMist() {
        sentence("(Nothing changes by that.)");
        BogBoards x = bog("last 4;island 2;board 0 1 9 1;walker 4 0 1;", "c*2*!a+!c*(3*b+!b*a)+c*a");
        acts(x, 8);
        long before = x.digest();
        mist(x, 40, -1, 1, 40);
        due("digest", x.digest(), before);
        due("walker(0, 0)", x.walker(0, 0), 1);
        due("fewest()", x.fewest(), 5);
        mist(x, 40, -1, 1, 40);
        due("undo()", x.undo(), 1);
        due("walker(0, 0)", x.walker(0, 0), 0);
        due("undo()", x.undo(), -3);
        refusals(x, 0, 1, 0);
    }

    static void aFaultAllStay() {
        sentence("(A FAULT: all stay.)");
        for (String rule : new String[] {"", "1+", "1)", "(1", "1234567", "1234577", "1+(((((((((0", "1 1", "x", "1<2<3"}) {
            mist("last 2;walker 1 0 1;walker 1 2 1;", rule, 40, -1, 1, 40);
        }
    }

    static void yearsAreOneToTwenty() {
        sentence("YEARS: of the next n years (1 .. 20), with w of 10 (0 .. 10), k (0 .. n); BAD");
        BogBoards x = losing();
        for (int n = 1; n <= 20; n++) {
            due("years(" + n + ", 0, 0)", x.years(n, 0, 0), 1);
            due("years(" + n + ", 10, " + n + ")", x.years(n, 10, n), 1);
        }
        due("years(1, 0, 1)", x.years(1, 0, 1), 1);
        due("years(20, 5, 7)", x.years(20, 5, 7), 1);
        long before = x.digest();
        int[][] bad = {{0, 5, 0}, {21, 5, 0}, {-1, 5, 0}, {5, -1, 0}, {5, 11, 0}, {5, 5, -1}, {5, 5, 6}, {1, 5, 2}, {20, 5, 21},
            {0, 0, 0}, {Integer.MIN_VALUE, 5, 0}, {Integer.MAX_VALUE, 5, 0}, {5, Integer.MAX_VALUE, 0},
            {5, Integer.MIN_VALUE, 0}, {5, 5, Integer.MAX_VALUE}, {5, 5, Integer.MIN_VALUE}};
        for (int[] b : bad) {
            due("years(" + b[0] + ", " + b[1] + ", " + b[2] + ")", x.years(b[0], b[1], b[2]), -2);
        }
        due("digest", x.digest(), before);
        refusals(x, bad.length, 0, 0);
    }

    static void theChanceOfKAtLeast() {
        sentence("YEARS: the chance that k of them at least are lost");
        BogBoards x = losing();
        years(x, 1, 5, 0, "1", "1");
        years(x, 1, 5, 1, "1", "2");
        years(x, 2, 5, 0, "1", "1");
        years(x, 2, 5, 1, "3", "4");
        years(x, 2, 5, 2, "1", "4");
        years(x, 3, 1, 1, "271", "1000");
        years(x, 3, 1, 2, "7", "250");
        years(x, 3, 1, 3, "1", "1000");
        years(x, 3, 4, 2, "44", "125");
    }

    static void noYearIsWetOrEachOne() {
        sentence("each is WET with w of 10 (0 .. 10): none, all");
        BogBoards x = losing();
        years(x, 20, 0, 0, "1", "1");
        years(x, 20, 0, 1, "0", "1");
        years(x, 20, 0, 20, "0", "1");
        years(x, 20, 10, 0, "1", "1");
        years(x, 20, 10, 1, "1", "1");
        years(x, 20, 10, 20, "1", "1");
        years(x, 1, 10, 1, "1", "1");
    }

    static void aRuleThatLosesNobody() {
        sentence("a year is lost, if it is WET and THE RULE loses somebody in 40 rounds");
        BogBoards x = bog("last 2;walker 1 0 1;", "a");
        years(x, 4, 5, 1, "0", "1");
        years(x, 4, 5, 0, "1", "1");
        years(x, 20, 10, 20, "0", "1");
        rule(x, "t=39");
        years(x, 1, 5, 1, "1", "2");
        rule(x, "t=40");
        years(x, 1, 5, 1, "0", "1");
        rule(x, "1+");
        years(x, 1, 5, 1, "0", "1");
        rule(x, "");
        years(x, 1, 5, 1, "0", "1");
        rule(x, "1");
        years(x, 1, 5, 1, "1", "2");
        read(x, "last 1;walker 1 0 1;");
        years(x, 1, 5, 1, "0", "1");
        years(new BogBoards(), 1, 10, 1, "0", "1");
    }

    static void theFractionAtFirst() {
        sentence("THE FRACTION is 0 by 1 at first");
        fraction(new BogBoards(), new long[] {}, new long[] {1});
    }

    static void lowestTerms() {
        sentence("THE FRACTION: lowest terms, below above 0");
        BogBoards x = losing();
        for (int n = 1; n <= 20; n++) {
            for (int w = 1; w <= 9; w += n % 3 + 1) {
                int k = (7 * n + w) % (n + 1);
                java.math.BigInteger above = java.math.BigInteger.ZERO;
                java.math.BigInteger ways = java.math.BigInteger.ONE;
                for (int j = 0; j <= n; j++) {
                    if (j >= k) {
                        above = above.add(ways.multiply(java.math.BigInteger.valueOf(w).pow(j))
                            .multiply(java.math.BigInteger.valueOf(10 - w).pow(n - j)));
                    }
                    ways = ways.multiply(java.math.BigInteger.valueOf(n - j)).divide(java.math.BigInteger.valueOf(j + 1));
                }
                java.math.BigInteger below = java.math.BigInteger.TEN.pow(n);
                java.math.BigInteger shared = above.gcd(below);
                x = losing();
                years(x, n, w, k, above.divide(shared).toString(), below.divide(shared).toString());
            }
        }
    }

    static void limbsOfABigNumber() {
        sentence("Its limbs are digits to the base 1073741824, the lowest first");
        BogBoards x = losing();
        years(x, 9, 1, 9, "1", "1000000000");
        years(x, 10, 1, 10, "1", "10000000000");
        years(x, 18, 1, 18, "1", "1000000000000000000");
        years(x, 19, 1, 19, "1", "10000000000000000000");
        years(x, 20, 1, 20, "1", "100000000000000000000");
        years(x, 20, 9, 20, "12157665459056928801", "100000000000000000000");
        years(x, 9, 9, 9, "387420489", "1000000000");
        years(x, 10, 9, 10, "3486784401", "10000000000");
        x.years(20, 1, 20);
        fraction(x, new long[] {1}, new long[] {588251136, 790460597, 86});
    }

    static void limbsThatAreNotThere() {
        sentence("limb: NONE: not so many. BAD: i below 0, too");
        BogBoards x = losing();
        x.years(20, 1, 20);
        due("limb(0, 0)", x.limb(0, 0), 1);
        due("limb(0, 1)", x.limb(0, 1), -1);
        due("limb(1, 2)", x.limb(1, 2), 86);
        due("limb(1, 3)", x.limb(1, 3), -1);
        due("limb(1, 4)", x.limb(1, 4), -1);
        due("limb(0, MAX)", x.limb(0, Integer.MAX_VALUE), -1);
        due("limb(1, MAX)", x.limb(1, Integer.MAX_VALUE), -1);
        due("limb(0, 0) of 0", new BogBoards().limb(0, 0), -1);
        refusals(x, 0, 0, 0);
        int[][] bad = {{-1, 0}, {2, 0}, {0, -1}, {1, -1}, {0, Integer.MIN_VALUE}, {1, Integer.MIN_VALUE}, {Integer.MAX_VALUE, 0},
            {Integer.MIN_VALUE, 0}, {2, -1}, {2, 9}};
        for (int[] b : bad) {
            due("limb(" + b[0] + ", " + b[1] + ")", x.limb(b[0], b[1]), -2);
        }
        refusals(x, bad.length, 0, 0);
    }

    static void signsThatAreNotThere() {
        sentence("sign: its sign (0: -1, 0, 1), how many limbs above (1), below (2). BAD");
        BogBoards x = losing();
        due("sign(0)", x.sign(0), 0);
        due("sign(1)", x.sign(1), 0);
        due("sign(2)", x.sign(2), 1);
        x.years(20, 1, 20);
        due("sign(0)", x.sign(0), 1);
        due("sign(1)", x.sign(1), 1);
        due("sign(2)", x.sign(2), 3);
        for (int what : new int[] {-1, 3, Integer.MIN_VALUE, Integer.MAX_VALUE}) {
            due("sign(" + what + ")", x.sign(what), -2);
        }
        refusals(x, 4, 0, 0);
    }
}
