/** The edges of ACTS: why, act, wrong. */
public final class ActEdgesTest extends Check {
    public static void main(String[] args) {
        runAll(ActEdgesTest.class);
    }

    private static void why(BogBoards x, int act, int want) {
        due("why(" + act + ")", x.why(act), want);
    }

    /** All numbers 0 to 1400: which of them are ACTS, by how many walkers and boards there are. */
    private static void onlyThese(String text, int walkers, int boards) {
        boolean[] isOne = new boolean[1401];
        for (int w = 0; w < walkers; w++) {
            isOne[walk(w, 0)] = true;
            isOne[walk(w, 1)] = true;
            for (int b = 0; b < boards; b++) {
                isOne[lay(w, b, 0)] = true;
                isOne[lay(w, b, 1)] = true;
                isOne[take(w, b)] = true;
                for (int other = 0; other < walkers; other++) {
                    isOne[hand(w, b, other)] = true;
                }
            }
        }
        for (int from = 0; from <= 1400; from += 400) {
            BogBoards x = bog(text);
            for (int act = from; act < from + 400 && act <= 1400; act++) {
                int why = x.why(act);
                due("whether why(" + act + ") is 1, " + walkers + " walkers, " + boards + " boards", why == 1 ? 1 : 0,
                    isOne[act] ? 0 : 1);
            }
        }
    }

    static void whichActsThereAre() {
        sentence("WHY: 1 there is no such one (a WALKER, a BOARD, x, y that is none; 4, too)");
        for (int walkers = 0; walkers <= 3; walkers++) {
            for (int boards = 0; boards <= 2; boards++) {
                String text = "last 7;" + "walker 1 0 1;".repeat(walkers) + "board 0 1 9 1;board 0 1 9 3;".substring(0, 14 * boards);
                onlyThese(text, walkers, boards);
            }
        }
    }

    static void anyNumber() {
        sentence("why: WHY: 0 .. 3 (any number)");
        BogBoards x = bog("last 3;island 1;island 2;board 0 1 9 1;walker 1 0 1;");
        int[] none = {-1, -8, -1016, -1024, -1016 - 1024, 1024, 1032, 1279, 1280, 1288, 2048, 2056, 65536 + 8,
            (1 << 30) + 8, Integer.MIN_VALUE, Integer.MIN_VALUE + 8, Integer.MAX_VALUE};
        for (int act : none) {
            why(x, act, 1);
        }
        why(x, 8, 0);
        refusals(x, 0, 0, 0);
    }

    static void aLeapIsNoAct() {
        sentence("4 LEAP (only where LEAPS are told of); WHY: 1 (4, too)");
        BogBoards x = bog("last 2;walker 1 0 1;");
        why(x, leap(0, 1), 1);
        why(x, leap(0, 0), 1);
        due("act(leap)", x.act(leap(0, 1)), -3);
        due("leaps(-1)", x.leaps(-1), 1);
        why(x, leap(0, 1), 1);
        due("fewest()", x.fewest(), -1);
    }

    static void oneGoesAheadOfTwoAndThree() {
        sentence("WHY: 1 there is no such one, 2 it can not be so, 3 it would not be WELL");
        BogBoards x = bog("last 4;island 3;board 0 1 5 1;board 0 1 9 2;walker 5 1 1;walker 5 0 1;walker 5 4 1;");
        why(x, walk(1, 1) + 1, 1);
        why(x, walk(1, 1), 3);
        why(x, walk(0, 1) + 1, 1);
        // He can not take up what lies two places away, nor would he be light enough with it.
        why(x, take(1, 1), 2);
        why(x, take(0, 1), 3);
        why(x, take(0, 2), 1);
        acts(x, walk(0, 1), take(1, 0));
        why(x, hand(1, 0, 3), 1);
        why(x, hand(1, 0, 0), 2);
        why(x, hand(1, 1, 0), 2);
    }

    static void aWalkIsOnePlaceToAFirmOne() {
        sentence("0 WALK (x 0 back, 1 ahead; y 0): one PLACE, to a FIRM one");
        BogBoards x = bog("last 5;island 1;board 0 1 9 2;walker 1 1 1;walker 1 5 0;walker 1 0 1;");
        why(x, walk(0, 0), 0);
        why(x, walk(0, 1), 0);
        why(x, walk(1, 0), 2);
        why(x, walk(1, 1), 2);
        why(x, walk(2, 0), 2);
        why(x, walk(2, 1), 0);
        acts(x, walk(0, 1));
        due("walker(0, 0)", x.walker(0, 0), 2);
        why(x, walk(0, 1), 2);
        acts(x, walk(0, 0), walk(0, 0));
        due("walker(0, 0)", x.walker(0, 0), 0);
        due("walker(1, 0)", x.walker(1, 0), 5);
        due("walker(2, 0)", x.walker(2, 0), 0);
    }

    static void nobodyWalksOutOfTheBog() {
        sentence("0 WALK: one PLACE (PLACES 0 to LAST)");
        for (int last = 1; last <= 7; last++) {
            BogBoards x = bog(allIslands(last) + "walker 1 0 1;walker 1 " + last + " 0;");
            why(x, walk(0, 0), 2);
            why(x, walk(1, 1), 2);
            for (int p = 1; p <= last; p++) {
                acts(x, walk(0, 1), walk(1, 0));
                due("walker(0, 0)", x.walker(0, 0), p);
                due("walker(1, 0)", x.walker(1, 0), last - p);
            }
            why(x, walk(0, 1), 2);
            why(x, walk(1, 0), 2);
            due("over()", x.over(), 1);
        }
    }

    static void aWalkOntoABoardMustBeWell() {
        sentence("WELL: on no BOARD there is more than it BEARS (behind a WALK)");
        for (int bears = 1; bears <= 12; bears++) {
            BogBoards x = bog("last 4;board 0 3 " + bears + " 1;walker 1 1 1;walker 3 0 1;walker 4 4 0;");
            why(x, walk(1, 1), bears >= 4 ? 0 : 3);
            why(x, walk(2, 0), bears >= 5 ? 0 : 3);
            if (bears >= 4) {
                acts(x, walk(1, 1));
                why(x, walk(2, 0), bears >= 8 ? 0 : 3);
                // Who is on it already may go on.
                why(x, walk(0, 1), 0);
                why(x, walk(1, 1), 0);
            }
        }
    }

    static void whoCarriesCountsMoreOnABoard() {
        sentence("A WALKER counts 2 more with a BOARD (behind a WALK)");
        for (int bears = 3; bears <= 7; bears++) {
            BogBoards x = bog("last 4;island 2;board 0 1 9 1;board 0 1 " + bears + " 3;walker 3 2 1;");
            why(x, walk(0, 1), 0);
            acts(x, take(0, 0));
            why(x, walk(0, 1), bears >= 5 ? 0 : 3);
        }
    }

    /** A walker at a place, who takes up a plain board of a span and may lay it both ways. */
    private static void laying(int last, int islands, int at, int span) {
        int from = at + span <= last ? at + 1 : at - span;
        if (from < 0) {
            return;
        }
        StringBuilder text = new StringBuilder("last " + last + ";");
        for (int p = 1; p < last; p++) {
            text.append((islands >> p & 1) == 1 ? "island " + p + ";" : "");
        }
        String kind = span == 4 ? "2 3" : "0 " + span;
        BogBoards x = bog(text + "walker 1 " + at + " 1;board " + kind + " 9 " + from + ";");
        acts(x, take(0, 0));
        for (int way = 0; way <= 1; way++) {
            boolean may = true;
            for (int i = 1; i <= span; i++) {
                int p = way == 0 ? at - i : at + i;
                may &= p > 0 && p < last && (islands >> p & 1) == 0;
            }
            due("why(" + lay(0, 0, way) + ") of '" + text + "' from " + at + " by " + span, x.why(lay(0, 0, way)), may ? 0 : 2);
        }
    }

    static void aBoardIsLaidOnWetPlacesAlone() {
        sentence("1 LAY: on the PLACES next to his that way, as many as its LENGTH, all of them WET");
        for (int last = 1; last <= 7; last++) {
            for (int islands = 0; islands < 1 << last; islands += 2) {
                for (int at = 0; at <= last; at++) {
                    boolean isGround = at == 0 || at == last || (islands >> at & 1) == 1;
                    for (int span = 1; span <= 4 && isGround; span++) {
                        laying(last, islands, at, span);
                    }
                }
            }
        }
    }

    static void aBoardIsLaidWhereNoBoardIs() {
        sentence("1 LAY: none with a BOARD");
        BogBoards y = bog("last 7;island 2;board 0 2 9 0;board 0 1 9 4;walker 1 2 1;");
        acts(y, take(0, 0));
        why(y, lay(0, 0, 1), 2);
        BogBoards z = bog("last 7;island 2;board 0 2 9 0;board 0 1 9 5;walker 1 2 1;");
        acts(z, take(0, 0));
        why(z, lay(0, 0, 1), 0);
        BogBoards back = bog("last 7;island 5;board 0 2 9 6;board 0 1 9 3;walker 1 5 1;");
        acts(back, take(0, 0));
        why(back, lay(0, 0, 0), 2);
        BogBoards next = bog("last 7;island 5;board 0 2 9 6;board 0 1 9 4;walker 1 5 1;");
        acts(next, take(0, 0));
        why(next, lay(0, 0, 0), 2);
        BogBoards beyond = bog("last 7;island 5;board 0 2 9 6;board 0 1 9 2;walker 1 5 1;");
        acts(beyond, take(0, 0), lay(0, 0, 0));
        due("board(0, 0)", beyond.board(0, 0), 3);
    }

    static void aBoardIsLaidFromABoard() {
        sentence("1 LAY: on the PLACES next to his (he may stand on a BOARD)");
        BogBoards x = bog("last 4;board 0 1 9 1;board 0 1 9 2;walker 1 1 1;");
        acts(x, take(0, 1), lay(0, 1, 1), walk(0, 1), take(0, 0), lay(0, 0, 1), walk(0, 1), walk(0, 1));
        due("over()", x.over(), 1);
    }

    static void onlyWhoCarriesItLaysIt() {
        sentence("1 LAY BOARD x: who carries it");
        BogBoards x = bog("last 7;board 0 1 9 1;board 0 1 9 6;walker 1 0 1;walker 1 0 1;walker 1 7 0;");
        why(x, lay(0, 0, 1), 2);
        acts(x, take(0, 0), take(2, 1));
        why(x, lay(0, 0, 1), 0);
        why(x, lay(1, 0, 1), 2);
        why(x, lay(0, 1, 1), 2);
        why(x, lay(2, 1, 0), 0);
        why(x, lay(2, 0, 0), 2);
    }

    static void whoLaysStaysWhereHeIs() {
        sentence("1 LAY BOARD x (y 0 back, 1 ahead)");
        BogBoards x = bog("last 7;island 4;board 0 3 9 1;walker 1 4 1;");
        acts(x, take(0, 0), lay(0, 0, 0));
        due("walker(0, 0)", x.walker(0, 0), 4);
        due("walker(0, 2)", x.walker(0, 2), -1);
        due("board(0, 0)", x.board(0, 0), 1);
        acts(x, take(0, 0));
        why(x, lay(0, 0, 1), 2);
        BogBoards y = bog("last 7;island 4;board 0 2 9 2;walker 1 4 1;");
        acts(y, take(0, 0), lay(0, 0, 1));
        due("board(0, 0)", y.board(0, 0), 5);
    }

    static void aBoardIsTakenUpFromBesideItsEnds() {
        sentence("2 TAKE UP: one of its ends is beside his PLACE; nobody stands on it");
        for (int span = 1; span <= 4; span++) {
            String kind = span == 4 ? "2 3" : "0 " + span;
            for (int from = 0; from + span - 1 <= 7; from++) {
                for (int at = 0; at <= 7; at++) {
                    BogBoards x = bog(allIslands(7) + "walker 1 " + at + " 1;board " + kind + " 9 " + from + ";");
                    boolean may = at == from - 1 || at == from + span;
                    due("why(512) from " + at + " of a board at " + from + ", " + span + " long", x.why(512), may ? 0 : 2);
                }
            }
        }
    }

    static void nobodyStandsOnWhatIsTakenUp() {
        sentence("2 TAKE UP: nobody stands on it");
        for (int other = 0; other <= 7; other++) {
            BogBoards x = bog(allIslands(7) + "walker 1 1 1;walker 1 " + other + " 1;board 0 3 9 2;");
            why(x, take(0, 0), other >= 2 && other <= 4 ? 2 : 0);
        }
    }

    static void aBoardThatIsTakenUpLies() {
        sentence("2 TAKE UP: it lies; he carries none");
        BogBoards x = bog("last 7;board 0 1 9 1;board 2 1 9 2;walker 1 0 1;walker 1 0 1;");
        acts(x, take(0, 0));
        why(x, take(0, 0), 2);
        why(x, take(1, 0), 2);
        acts(x, lay(0, 0, 1), walk(0, 1));
        why(x, take(0, 1), 0);
        acts(x, walk(0, 0), take(0, 0));
        BogBoards two = bog("last 7;island 2;board 0 1 9 1;board 0 1 9 3;walker 1 2 1;");
        why(two, take(0, 1), 0);
        acts(two, take(0, 0));
        why(two, take(0, 1), 2);
        acts(two, lay(0, 0, 0));
        why(two, take(0, 1), 0);
    }

    static void nobodyTakesWhatAnotherCarries() {
        sentence("2 TAKE UP: it lies (wherever who carries it, and who would take it, stand)");
        for (int carrier = 0; carrier <= 2; carrier++) {
            for (int other = 0; other <= 7; other++) {
                StringBuilder text = new StringBuilder(allIslands(7));
                for (int w = 0; w <= 2; w++) {
                    text.append("walker 1 ").append(w == carrier ? 3 : other).append(" 1;");
                }
                BogBoards x = bog(text + "board 0 1 9 " + (other == 4 ? 2 : 4) + ";");
                acts(x, take(carrier, 0));
                for (int w = 0; w <= 2; w++) {
                    why(x, take(w, 0), 2);
                }
            }
        }
    }

    static void everyKindButFrozenIsTakenUpAlone() {
        sentence("KINDS let it: 0 PLAIN, 1 CRACKED, 2 LONG, 3 DOUBLE; 5 FROZEN: is never taken up");
        int[] due = {0, 0, 0, 0, 2, 2};
        for (int kind = 0; kind <= 5; kind++) {
            BogBoards x = bog("last 4;board " + kind + " 1 9 1;walker 1 0 1;");
            why(x, take(0, 0), due[kind]);
        }
        BogBoards frozen = bog("last 2;board 5 1 9 1;walker 1 0 1;walker 1 2 1;walker 1 0 1;");
        why(frozen, take(0, 0), 2);
        why(frozen, take(1, 0), 2);
        why(frozen, take(2, 0), 2);
    }

    static void aRopeIsTakenUpByTwo() {
        sentence("4 ROPE: is taken up only if somebody else stands beside its other end");
        for (int length = 1; length <= 3; length++) {
            int span = length + 1;
            for (int from = 0; from + span - 1 <= 7; from++) {
                for (int at = 0; at <= 7; at++) {
                    for (int other = 0; other <= 7; other++) {
                        BogBoards x = bog(allIslands(7) + "walker 1 " + at + " 1;walker 1 " + other + " 1;board 4 " + length
                            + " 9 " + from + ";");
                        int before = from - 1;
                        int behind = from + span;
                        boolean may = at == before && other == behind || at == behind && other == before;
                        due("why(512) of a rope at " + from + ", " + span + " long, from " + at + ", the other at " + other,
                            x.why(512), may ? 0 : 2);
                    }
                }
            }
        }
    }

    static void aThirdOneOnARope() {
        sentence("4 ROPE: somebody else (any one)");
        BogBoards x = bog("last 4;island 3;board 4 1 9 1;walker 1 0 1;walker 1 0 1;walker 1 3 1;");
        why(x, take(0, 0), 0);
        why(x, take(1, 0), 0);
        why(x, take(2, 0), 0);
        acts(x, walk(2, 0));
        why(x, take(0, 0), 2);
        acts(x, walk(2, 1), take(0, 0));
        // It is laid by one alone, also behind the other one's back.
        acts(x, walk(2, 1), lay(0, 0, 1));
        why(x, take(0, 0), 2);
    }

    static void aBoardIsHandedToOneWhoIsNear() {
        sentence("3 HAND: the other one is at his PLACE or beside it");
        for (int at = 1; at <= 6; at++) {
            for (int other = 0; other <= 7; other++) {
                BogBoards x = bog(allIslands(7) + "walker 1 " + at + " 1;walker 1 " + other + " 1;board 0 1 9 "
                    + (other == at - 1 ? at + 1 : at - 1) + ";");
                acts(x, take(0, 0));
                boolean may = Math.abs(at - other) <= 1;
                due("why(769) from " + at + " to " + other, x.why(hand(0, 0, 1)), may ? 0 : 2);
                if (may) {
                    acts(x, hand(0, 0, 1));
                    due("walker(0, 2)", x.walker(0, 2), -1);
                    due("walker(1, 2)", x.walker(1, 2), 0);
                    due("walker(0, 3)", x.walker(0, 3), 1);
                    due("walker(1, 3)", x.walker(1, 3), 3);
                }
            }
        }
    }

    static void onlyWhoCarriesItHandsIt() {
        sentence("3 HAND BOARD x to WALKER y: who carries it; the other one carries none");
        BogBoards x = bog("last 4;board 0 1 9 1;board 0 1 9 2;walker 1 0 1;walker 1 0 1;walker 1 0 1;");
        why(x, hand(0, 0, 1), 2);
        acts(x, take(0, 0));
        why(x, hand(0, 0, 0), 2);
        why(x, hand(1, 0, 2), 2);
        why(x, hand(1, 0, 0), 2);
        why(x, hand(0, 1, 1), 2);
        why(x, hand(0, 0, 2), 0);
        acts(x, lay(0, 0, 1), walk(0, 1), take(0, 1), walk(0, 0), take(1, 0));
        why(x, hand(0, 1, 1), 2);
        why(x, hand(1, 0, 0), 2);
        why(x, hand(0, 1, 2), 0);
        acts(x, hand(0, 1, 2));
        why(x, hand(1, 0, 2), 2);
        why(x, hand(1, 0, 0), 0);
    }

    static void whatIsTakenUpOrHandedMustBeWell() {
        sentence("Behind it all must be WELL (TAKE UP, HAND)");
        for (int bears = 4; bears <= 8; bears++) {
            BogBoards x = bog("last 5;island 1;island 4;board 0 1 " + bears + " 2;board 0 1 9 3;walker 4 2 1;walker 1 4 1;");
            why(x, take(0, 1), bears >= 6 ? 0 : 3);
            BogBoards y = bog("last 5;island 1;island 4;board 0 1 " + bears + " 2;board 0 1 9 0;walker 4 2 1;walker 1 1 1;");
            acts(y, take(1, 1));
            why(y, hand(1, 1, 0), bears >= 6 ? 0 : 3);
            due("act", y.act(hand(1, 1, 0)), bears >= 6 ? 1 : -3);
        }
    }

    static void whoHandsItAwayIsLighter() {
        sentence("Behind it all must be WELL (not ahead of it)");
        BogBoards x = bog("last 5;island 4;board 0 2 8 1;board 0 1 9 3;walker 3 2 1;walker 3 1 1;");
        acts(x, take(0, 1));
        // Both on one board: it goes from one to the other, and the board bears the same.
        why(x, hand(0, 1, 1), 0);
        acts(x, hand(0, 1, 1), hand(1, 1, 0), lay(0, 1, 1));
        due("board(0, 3)", x.board(0, 3), 6);
    }

    static void anActIsDone() {
        sentence("act: An ACT is done: 1");
        BogBoards x = bog("last 4;island 2;board 0 1 9 1;walker 4 0 1;walker 3 0 1;");
        due("act(8)", x.act(8), 1);
        due("walker(0, 0)", x.walker(0, 0), 1);
        due("count(4)", x.count(4), 1);
        due("count(2), the text", x.count(2), 56);
        refusals(x, 0, 0, 0);
    }

    static void anActThatCanNotBe() {
        sentence("act: NO: it can not be (for each WHY)");
        BogBoards x = bog("last 4;island 2;board 0 1 6 1;walker 4 0 1;walker 3 0 1;");
        acts(x, 8);
        long before = x.digest();
        int[][] due = {{1032, 1}, {-1, 1}, {128, 1}, {512, 2}, {256, 2}, {64, 2}, {72, 3}, {Integer.MIN_VALUE, 1}};
        for (int[] d : due) {
            due("why(" + d[0] + ")", x.why(d[0]), d[1]);
            due("act(" + d[0] + ")", x.act(d[0]), -3);
            due("digest", x.digest(), before);
        }
        refusals(x, 0, due.length, 0);
        due("undo()", x.undo(), 1);
        due("walker(0, 0)", x.walker(0, 0), 0);
    }

    static void actsMayBeWhenAllAreOver() {
        sentence("act: An ACT is done: 1 (also when all are OVER)");
        BogBoards x = bog("last 1;walker 1 1 1;");
        due("over()", x.over(), 1);
        due("act(0)", x.act(0), 1);
        due("over()", x.over(), 0);
    }

    static void howManyAreWrong() {
        sentence("wrong: how many (i = NONE), the i-th. -5: not so many. BAD: -10");
        BogBoards x = bog("last 4;board 0 2 8 1;walker 4 0 1;walker 5 1 1;walker 9 0 0;");
        due("wrong(-1)", x.wrong(-1), 2);
        due("wrong(0)", x.wrong(0), walk(0, 1));
        due("wrong(1)", x.wrong(1), walk(2, 1));
        due("wrong(2)", x.wrong(2), -5);
        due("wrong(MAX)", x.wrong(Integer.MAX_VALUE), -5);
        refusals(x, 0, 0, 0);
        due("wrong(-2)", x.wrong(-2), -10);
        due("wrong(MIN)", x.wrong(Integer.MIN_VALUE), -10);
        refusals(x, 2, 0, 0);
        acts(x, walk(1, 0));
        due("wrong(-1) behind an act", x.wrong(-1), 1);
        due("wrong(0)", x.wrong(0), walk(2, 1));
        due("wrong(1)", x.wrong(1), -5);
    }

    static void noneIsWrong() {
        sentence("wrong: -5: not so many (none at all)");
        BogBoards x = new BogBoards();
        due("wrong(-1)", x.wrong(-1), 0);
        due("wrong(0)", x.wrong(0), -5);
        due("wrong(-2)", x.wrong(-2), -10);
        BogBoards y = bog("last 3;walker 1 0 1;");
        due("wrong(-1): a walk onto a wet place is 2", y.wrong(-1), 0);
        due("wrong(0)", y.wrong(0), -5);
    }

    static void wrongAreActsZeroToThree() {
        sentence("WRONG: ACTS 0 to 3 that are 3 from how it is now (by numbers)");
        // A leap onto the weak board would not be well, but is no act here.
        BogBoards x = bog("last 4;board 0 1 3 2;walker 4 0 1;");
        due("wrong(-1)", x.wrong(-1), 0);
        BogBoards back = bog("last 4;board 0 1 3 2;walker 4 4 0;");
        due("wrong(-1), a leap back", back.wrong(-1), 0);
        due("wrong(0), a leap back", back.wrong(0), -5);
        BogBoards y = bog("last 5;island 1;board 0 2 5 2;board 0 1 9 4;walker 4 3 1;walker 2 1 1;walker 2 5 0;");
        due("wrong(-1)", y.wrong(-1), 2);
        due("wrong(0)", y.wrong(0), walk(1, 1));
        due("wrong(1)", y.wrong(1), take(0, 1));
        acts(y, take(2, 1));
        due("wrong(-1)", y.wrong(-1), 1);
        BogBoards z = bog("last 4;island 1;board 0 1 9 0;board 0 1 5 2;walker 4 2 1;walker 1 1 1;");
        acts(z, take(1, 0));
        due("wrong(-1)", z.wrong(-1), 2);
        due("wrong(0)", z.wrong(0), walk(1, 1));
        due("wrong(1)", z.wrong(1), hand(1, 0, 0));
    }

    static void wrongIsTheLeastActToo() {
        sentence("WRONG: ACTS 0 to 3 (the least, too)");
        BogBoards x = bog("last 2;board 0 1 3 1;walker 4 2 0;");
        due("wrong(-1)", x.wrong(-1), 1);
        due("wrong(0)", x.wrong(0), 0);
        due("wrong(1)", x.wrong(1), -5);
    }

    static void wrongIsTheHighestActToo() {
        sentence("WRONG: ACTS 0 to 3 (the highest, too)");
        // Walker 2 hands board 1 to walker 1, who stands on board 0.
        BogBoards x = bog("last 5;island 3;board 0 1 4 2;board 0 1 9 4;walker 1 0 1;walker 4 2 1;walker 1 3 1;");
        acts(x, take(2, 1));
        due("wrong(-1)", x.wrong(-1), 2);
        due("wrong(0)", x.wrong(0), walk(2, 0));
        due("wrong(1)", x.wrong(1), hand(2, 1, 1));
    }
}
