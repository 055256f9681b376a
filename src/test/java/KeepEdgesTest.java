import java.util.function.ToLongFunction;

/** The edges of what is kept: undo, images, STATUS, count, digest, what a refused call changes, 512 calls. */
public final class KeepEdgesTest extends Check {
    private static final String ROAD = "last 3;island 1;island 2;walker 4 0 1;";

    public static void main(String[] args) {
        runAll(KeepEdgesTest.class);
    }

    static void noneMayBeUndone() {
        sentence("undo: NO: none may be");
        BogBoards x = new BogBoards();
        due("undo() of a new one", x.undo(), -3);
        read(x, ROAD);
        due("undo() behind read", x.undo(), -3);
        x.act(0);
        due("undo() behind an act that was refused", x.undo(), -3);
        acts(x, 8);
        due("undo()", x.undo(), 1);
        due("undo() of none that is left", x.undo(), -3);
        refusals(x, 0, 5, 0);
    }

    static void eightAtMost() {
        sentence("UNDO: as ahead of the last ACT that was done (8 at most)");
        BogBoards x = bog(ROAD);
        int[] places = {0, 1, 2, 3, 2, 1, 0, 1, 2, 3, 2, 1};
        for (int i = 1; i < places.length; i++) {
            acts(x, walk(0, places[i] > places[i - 1] ? 1 : 0));
            due("count(4) behind " + i + " acts", x.count(4), Math.min(i, 8));
        }
        for (int i = places.length - 2; i >= places.length - 9; i--) {
            due("undo()", x.undo(), 1);
            due("walker(0, 0)", x.walker(0, 0), places[i]);
            due("count(4)", x.count(4), i - (places.length - 9));
        }
        due("undo() of a ninth", x.undo(), -3);
        due("walker(0, 0)", x.walker(0, 0), places[places.length - 9]);
        refusals(x, 0, 1, 0);
    }

    static void justEight() {
        sentence("UNDO: (8 at most): all of eight");
        BogBoards x = bog(ROAD);
        acts(x, 8, 8, 8, 0, 0, 0, 8, 8);
        for (int i = 8; i >= 1; i--) {
            due("count(4)", x.count(4), i);
            due("undo()", x.undo(), 1);
        }
        due("walker(0, 0)", x.walker(0, 0), 0);
        due("undo() of a ninth", x.undo(), -3);
        // What was undone may be done again, and is kept again.
        acts(x, 8, 8);
        due("count(4)", x.count(4), 2);
    }

    static void eachKindOfActIsUndone() {
        sentence("UNDO: as ahead of the last ACT that was done (of each KIND)");
        BogBoards x = bog("last 4;island 2;board 0 1 9 1;walker 4 0 1;walker 3 0 1;");
        int[] row = {walk(0, 1), walk(0, 1), take(1, 0), lay(1, 0, 1), take(1, 0), lay(1, 0, 1), take(0, 0), lay(0, 0, 1)};
        long[] before = new long[row.length];
        for (int i = 0; i < row.length; i++) {
            before[i] = x.digest();
            acts(x, row[i]);
        }
        for (int i = row.length - 1; i >= 0; i--) {
            due("undo()", x.undo(), 1);
            due("digest ahead of act " + i, x.digest(), before[i]);
        }
        BogBoards y = bog("last 4;board 0 1 9 1;walker 4 0 1;walker 3 0 1;");
        acts(y, take(0, 0));
        long carried = y.digest();
        acts(y, hand(0, 0, 1));
        due("walker(1, 2)", y.walker(1, 2), 0);
        due("undo()", y.undo(), 1);
        due("digest", y.digest(), carried);
        due("walker(0, 2)", y.walker(0, 2), 0);
    }

    static void whatIsNoActIsNotUndone() {
        sentence("UNDO: as ahead of the last ACT that was done (not what was written, typed, asked, refused)");
        BogBoards x = bog(ROAD);
        acts(x, 8);
        rule(x, "a");
        type(x, "x");
        x.years(1, 5, 0);
        x.act(99);
        x.fewest();
        x.mist(40, 0);
        due("undo()", x.undo(), 1);
        due("walker(0, 0)", x.walker(0, 0), 0);
        due("count(2)", x.count(2), ROAD.length() + 1);
        due("count(3)", x.count(3), 1);
        due("sign(0)", x.sign(0), 1);
        due("undo()", x.undo(), -3);
        refusals(x, 0, 2, 0);
    }

    static void imagesAreZeroAndOne() {
        sentence("IMAGES 0, 1; image: BAD; from: BAD; NO: none was kept");
        BogBoards x = bog(ROAD);
        due("from(0)", x.from(0), -3);
        due("from(1)", x.from(1), -3);
        due("image(0)", x.image(0), 1);
        due("from(0)", x.from(0), 1);
        due("from(1)", x.from(1), -3);
        due("image(1)", x.image(1), 1);
        due("from(1)", x.from(1), 1);
        refusals(x, 0, 3, 0);
        for (int i : new int[] {-1, 2, 3, Integer.MIN_VALUE, Integer.MAX_VALUE}) {
            due("image(" + i + ")", x.image(i), -2);
            due("from(" + i + ")", x.from(i), -2);
        }
        refusals(x, 10, 3, 0);
        BogBoards y = new BogBoards();
        due("image(1) alone", y.image(1), 1);
        due("from(0)", y.from(0), -3);
        due("from(2) is BAD ahead of NO", y.from(2), -2);
        refusals(y, 1, 1, 0);
    }

    static void imagesKeepTheBogAndTheRule() {
        sentence("IMAGES 0, 1 keep all but them, THE TEXT, THE FRACTION and STATUS; it goes on from one");
        BogBoards x = bog("last 5;island 2;board 1 1 9 1;board 2 1 8 3;walker 4 0 1;walker 3 5 0;", "a+b");
        acts(x, walk(0, 1), walk(0, 1), take(0, 0));
        long kept = x.digest();
        int textThen = x.count(2);
        due("image(0)", x.image(0), 1);
        due("digest behind image", x.digest(), kept);
        acts(x, walk(0, 1));
        due("image(1)", x.image(1), 1);
        long keptNext = x.digest();
        rule(x, "1");
        read(x, "last 1;walker 1 0 1;");
        acts(x, 8);
        due("from(0)", x.from(0), 1);
        x.clear();
        type(x, " ".repeat(textThen));
        due("digest behind from(0)", x.digest(), kept);
        due("walker(0, 2)", x.walker(0, 2), 0);
        due("board(1, 0)", x.board(1, 0), 3);
        due("fault()", x.fault(), -1);
        due("from(1)", x.from(1), 1);
        due("digest behind from(1)", x.digest(), keptNext);
        due("from(0) once more", x.from(0), 1);
        due("digest behind from(0)", x.digest(), kept);
    }

    static void imagesKeepWhatMayBeUndone() {
        sentence("IMAGES: what may be undone they keep");
        BogBoards x = bog(ROAD);
        acts(x, 8, 8);
        x.image(0);
        acts(x, 8, 0, 0);
        x.image(1);
        due("from(0)", x.from(0), 1);
        due("count(4)", x.count(4), 2);
        due("walker(0, 0)", x.walker(0, 0), 2);
        due("undo()", x.undo(), 1);
        due("walker(0, 0)", x.walker(0, 0), 1);
        due("undo()", x.undo(), 1);
        due("walker(0, 0)", x.walker(0, 0), 0);
        due("undo()", x.undo(), -3);
        acts(x, 8);
        due("from(1)", x.from(1), 1);
        due("count(4)", x.count(4), 5);
        due("walker(0, 0)", x.walker(0, 0), 1);
        for (int place : new int[] {2, 3, 2, 1, 0}) {
            due("undo()", x.undo(), 1);
            due("walker(0, 0)", x.walker(0, 0), place);
        }
        due("undo()", x.undo(), -3);
        due("from(0)", x.from(0), 1);
        due("count(4) as it was kept", x.count(4), 2);
    }

    static void whatMayBeUndoneIsNotMixed() {
        sentence("IMAGES: what may be undone they keep (whatever is done behind it)");
        BogBoards x = bog(ROAD + "walker 3 3 0;");
        acts(x, walk(0, 1), walk(0, 1));
        long[] before = new long[3];
        before[2] = x.digest();
        x.image(1);
        x.undo();
        before[1] = x.digest();
        x.undo();
        before[0] = x.digest();
        acts(x, walk(1, 0), walk(1, 0), walk(1, 0));
        due("from(1)", x.from(1), 1);
        due("digest", x.digest(), before[2]);
        due("undo()", x.undo(), 1);
        due("digest, one undone", x.digest(), before[1]);
        due("undo()", x.undo(), 1);
        due("digest, two undone", x.digest(), before[0]);
        due("undo()", x.undo(), -3);
        acts(x, walk(1, 0), walk(1, 0), walk(1, 0));
        due("from(1)", x.from(1), 1);
        due("undo()", x.undo(), 1);
        due("digest, one undone", x.digest(), before[1]);
    }

    static void imagesDoNotKeepTheRest() {
        sentence("IMAGES keep all but THE TEXT, THE FRACTION and STATUS");
        BogBoards x = bog(ROAD);
        x.act(99);
        x.image(0);
        x.clear();
        type(x, "abc");
        x.years(1, 5, 0);
        x.act(99);
        x.sign(9);
        x.type(0, 0);
        due("from(0)", x.from(0), 1);
        due("count(2)", x.count(2), 3);
        due("sign(0)", x.sign(0), 1);
        refusals(x, 2, 2, 0);
    }

    static void imagesDoNotKeepImages() {
        sentence("IMAGES 0, 1 keep all but them");
        BogBoards x = bog(ROAD);
        x.image(0);
        acts(x, 8);
        x.image(1);
        due("from(0)", x.from(0), 1);
        due("from(1), kept behind image 0", x.from(1), 1);
        due("walker(0, 0)", x.walker(0, 0), 1);
        acts(x, 8);
        x.image(0);
        x.from(1);
        due("from(0)", x.from(0), 1);
        due("walker(0, 0), kept anew", x.walker(0, 0), 2);
    }

    static void anImageStaysAsItWas() {
        sentence("it goes on from one (the IMAGE stays as it was)");
        BogBoards x = bog(ROAD, "a");
        x.image(0);
        long kept = x.digest();
        for (int i = 0; i < 3; i++) {
            acts(x, 8, 8, 8);
            rule(x, "b+c");
            due("from(0)", x.from(0), 1);
            due("digest", x.digest(), kept);
            due("fault()", x.fault(), -1);
            due("mist(3, 1)", x.mist(3, 1), 1);
        }
        read(x, "last 1;");
        due("from(0) behind read", x.from(0), 1);
        due("count(5)", x.count(5), 3);
    }

    static void aRuleWithAFaultIsKept() {
        sentence("IMAGES keep all (THE RULE, with its FAULT)");
        BogBoards x = bog("last 1;walker 1 0 1;", "1+");
        x.image(0);
        rule(x, "1");
        due("mist(1, 1)", x.mist(1, 1), 1);
        x.image(1);
        x.from(0);
        due("fault()", x.fault(), 21);
        due("mist(1, 1)", x.mist(1, 1), 0);
        due("write('1')", x.write('1'), 3);
        due("fault()", x.fault(), -1);
        x.from(1);
        due("fault()", x.fault(), -1);
        due("count(3)", x.count(3), 1);
        due("mist(1, 1)", x.mist(1, 1), 1);
    }

    static void statusOfAnotherWhat() {
        sentence("status: -1: another what (counts as BAD)");
        BogBoards x = new BogBoards();
        int bad = 0;
        for (int what : new int[] {-1, 3, 4, Integer.MIN_VALUE, Integer.MAX_VALUE}) {
            due("status(" + what + ")", x.status(what), -1);
            bad++;
            due("status(0)", x.status(0), bad);
        }
        refusals(x, bad, 0, 0);
    }

    /** One call: what it answers, and as what it counts: 0 BAD, 1 NO, 2 FULL, 3 nothing. */
    private static void counted(BogBoards x, String told, ToLongFunction<BogBoards> call, long want, int counter) {
        long before = x.digest();
        int[] was = {x.status(0), x.status(1), x.status(2)};
        due(told, call.applyAsLong(x), want);
        for (int what = 0; what < 3; what++) {
            due("status(" + what + ") behind " + told, x.status(what), was[what] + (what == counter ? 1 : 0));
        }
        due("digest behind " + told, x.digest(), before);
    }

    private static BogBoards full() {
        BogBoards x = bog("last 4;island 2;board 0 1 6 1;walker 4 0 1;walker 3 0 1;", "1" + " ".repeat(39));
        acts(x, 8);
        x.years(3, 3, 2);
        x.clear();
        for (int i = 0; i < 25; i++) {
            x.type(0x3b3b3b3b3b3b3b3bL, 8);
        }
        return x;
    }

    static void whatIsBadChangesNothing() {
        sentence("Refused, changing nothing but STATUS: BAD -2 a number is not as told (others count as these)");
        BogBoards x = full();
        counted(x, "type(0, 9)", y -> y.type(0, 9), -2, 0);
        counted(x, "place(-1)", y -> y.place(-1), -2, 0);
        counted(x, "place(5)", y -> y.place(5), -2, 0);
        counted(x, "firm(5)", y -> y.firm(5), -2, 0);
        counted(x, "walker(2, 0)", y -> y.walker(2, 0), -10, 0);
        counted(x, "walker(0, 4)", y -> y.walker(0, 4), -10, 0);
        counted(x, "board(1, 0)", y -> y.board(1, 0), -10, 0);
        counted(x, "board(0, 4)", y -> y.board(0, 4), -10, 0);
        counted(x, "row(-1)", y -> y.row(-1), -10, 0);
        counted(x, "lost(1)", y -> y.lost(1), -2, 0);
        counted(x, "lost(-1)", y -> y.lost(-1), -2, 0);
        counted(x, "leaps(1)", y -> y.leaps(1), -2, 0);
        counted(x, "wrong(-2)", y -> y.wrong(-2), -10, 0);
        counted(x, "write(128)", y -> y.write(128), -2, 0);
        counted(x, "mist(41, 0)", y -> y.mist(41, 0), -2, 0);
        counted(x, "mist(0, 3)", y -> y.mist(0, 3), -2, 0);
        counted(x, "years(0, 0, 0)", y -> y.years(0, 0, 0), -2, 0);
        counted(x, "years(5, 11, 0)", y -> y.years(5, 11, 0), -2, 0);
        counted(x, "years(5, 5, 6)", y -> y.years(5, 5, 6), -2, 0);
        counted(x, "sign(3)", y -> y.sign(3), -2, 0);
        counted(x, "limb(2, 0)", y -> y.limb(2, 0), -2, 0);
        counted(x, "limb(0, -1)", y -> y.limb(0, -1), -2, 0);
        counted(x, "image(2)", y -> y.image(2), -2, 0);
        counted(x, "from(2)", y -> y.from(2), -2, 0);
        counted(x, "status(3)", y -> y.status(3), -1, 0);
        counted(x, "count(6)", y -> y.count(6), -2, 0);
        counted(x, "count(-1)", y -> y.count(-1), -2, 0);
    }

    static void whatCanNotBeChangesNothing() {
        sentence("Refused, changing nothing but STATUS: NO -3 as told; FULL -4");
        BogBoards x = full();
        counted(x, "act(72), not well", y -> y.act(72), -3, 1);
        counted(x, "act(512)", y -> y.act(512), -3, 1);
        counted(x, "act(-1)", y -> y.act(-1), -3, 1);
        counted(x, "from(0)", y -> y.from(0), -3, 1);
        counted(x, "type(0, 1)", y -> y.type(0, 1), -4, 2);
        counted(x, "write(97)", y -> y.write(97), -4, 2);
        due("undo()", x.undo(), 1);
        counted(x, "undo()", y -> y.undo(), -3, 1);
        x.clear();
        type(x, "last 2;walker 1 1 0;");
        counted(x, "read()", y -> y.read(), -3, 1);
    }

    static void otherAnswersAreNoRefusals() {
        sentence("STATUS: how many calls were refused as BAD, NO, FULL (each answer told so is such a one)");
        BogBoards x = bog("last 4;board 0 1 6 1;walker 4 0 1;");
        x.clear();
        counted(x, "read() of a fault", y -> y.read(), -10, 3);
        counted(x, "fewest() of none", y -> y.fewest(), -1, 3);
        counted(x, "row(0) of none", y -> y.row(0), -5, 3);
        counted(x, "lost(0) of none", y -> y.lost(0), -1, 3);
        counted(x, "leaps(-1) of none", y -> y.leaps(-1), -1, 3);
        counted(x, "wrong(0) of none", y -> y.wrong(0), -5, 3);
        counted(x, "fault()", y -> y.fault(), 1, 3);
        counted(x, "mist(0, 0) of nobody", y -> y.mist(0, 0), -1, 3);
        counted(x, "why(-1)", y -> y.why(-1), 1, 3);
        counted(x, "why(8)", y -> y.why(8), 0, 3);
        counted(x, "why(256)", y -> y.why(256), 2, 3);
        counted(x, "limb(0, 0) of none", y -> y.limb(0, 0), -1, 3);
        counted(x, "walker(0, 2) of none", y -> y.walker(0, 2), -1, 3);
        counted(x, "clear() of none", y -> y.clear(), 0, 3);
        counted(x, "erase() of none", y -> y.erase(), 0, 3);
        counted(x, "over()", y -> y.over(), 0, 3);
    }

    static void countsOfAll() {
        sentence("count: 0 WALKERS, 1 BOARDS, 2 bytes of THE TEXT, 3 characters of THE RULE, 4 ACTS that may be undone, 5 LAST. BAD");
        String text = "last 5;walker 4 0 1;walker 4 0 1;walker 4 0 1;board 0 1 9 1;board 0 1 9 2;";
        BogBoards x = bog(text, "a+b+c+k");
        acts(x, 8, 8, 0, 0);
        int[] due = {3, 2, text.length(), 7, 4, 5};
        for (int what = 0; what <= 5; what++) {
            due("count(" + what + ")", x.count(what), due[what]);
        }
        refusals(x, 0, 0, 0);
        for (int what : new int[] {-1, 6, Integer.MIN_VALUE, Integer.MAX_VALUE}) {
            due("count(" + what + ")", x.count(what), -2);
        }
        refusals(x, 4, 0, 0);
    }

    private static long folded(long... values) {
        long h = 653;
        for (long v : values) {
            h = 31 * h + v;
        }
        return h;
    }

    static void theDigestOfANewOne() {
        sentence("digest: h = 653; then h = 31 h + v for each v");
        due("digest()", new BogBoards().digest(), folded(0, 0, 0, 0, 0, 7, 0, 2, 2, 2, 2, 2, 2, 0, 0, 0, 1, 1));
    }

    static void theDigestOfPlaces() {
        sentence("digest: of PLACES 0 to LAST what they are (as place())");
        due("digest() of last 1", bog("last 1;").digest(), folded(0, 0, 7, 0, 0, 1, 0, 0, 0, 0, 1, 1));
        due("digest() of last 2", bog("last 2;").digest(), folded(0, 0, 7, 0, 0, 2, 0, 2, 0, 0, 0, 1, 1));
        due("digest() of an island", bog("last 3;island 2;").digest(), folded(0, 0, 16, 0, 0, 3, 0, 2, 1, 0, 0, 0, 1, 1));
    }

    static void theDigestOfWalkers() {
        sentence("digest: of WALKERS WEIGHT, PLACE, GOAL (0, 1)");
        due("digest()", bog("last 1;walker 9 0 1;walker 8 1 0;walker 7 1 1;").digest(),
            folded(3, 0, 46, 0, 0, 1, 0, 0, 9, 0, 1, 8, 1, 0, 7, 1, 1, 0, 0, 1, 1));
    }

    static void theDigestOfBoards() {
        sentence("digest: of BOARDS KIND, LENGTH, BEARS (as told), where it is (a PLACE; 8 and the WALKER who carries it)");
        String text = "last 3;walker 1 0 1;walker 1 0 0;board 1 1 9 1;board 4 1 30 2;";
        BogBoards x = bog(text);
        due("digest()", x.digest(), folded(2, 2, 62, 0, 0, 3, 0, 2, 2, 0, 1, 0, 1, 1, 0, 0, 1, 1, 9, 1, 4, 1, 30, 2, 0, 0, 1, 1));
        acts(x, take(1, 0));
        due("digest(), carried by 1", x.digest(),
            folded(2, 2, 62, 0, 1, 3, 0, 2, 2, 0, 1, 0, 1, 1, 0, 0, 1, 1, 9, 9, 4, 1, 30, 2, 0, 0, 1, 1));
        acts(x, hand(1, 0, 0));
        due("digest(), carried by 0", x.digest(),
            folded(2, 2, 62, 0, 2, 3, 0, 2, 2, 0, 1, 0, 1, 1, 0, 0, 1, 1, 9, 8, 4, 1, 30, 2, 0, 0, 1, 1));
        BogBoards y = bog("last 2;walker 1 0 1;walker 1 0 1;walker 1 0 1;board 3 1 2 1;");
        acts(y, take(2, 0));
        due("digest(), carried by 2", y.digest(),
            folded(3, 1, 60, 0, 1, 2, 0, 2, 0, 1, 0, 1, 1, 0, 1, 1, 0, 1, 3, 1, 2, 10, 0, 0, 1, 1));
    }

    static void theDigestOfTheRule() {
        sentence("digest: characters of THE RULE");
        BogBoards x = new BogBoards();
        x.write(0);
        x.write(127);
        x.write('a');
        due("digest()", x.digest(), folded(0, 0, 0, 3, 0, 7, 0, 2, 2, 2, 2, 2, 2, 0, 0, 127, 97, 0, 0, 1, 1));
        x.erase();
        due("digest() of none", x.digest(), new BogBoards().digest());
    }

    static void theDigestOfTheFraction() {
        sentence("digest: THE FRACTION: sign(0) to sign(2), all limbs above, below");
        BogBoards x = bog("last 2;walker 1 0 1;", "1");
        x.years(20, 1, 20);
        due("digest()", x.digest(), folded(1, 0, 20, 1, 0, 2, 0, 2, 0, 1, 0, 1, 49, 1, 1, 3, 1, 588251136, 790460597, 86));
        x.years(10, 9, 10);
        due("digest()", x.digest(), folded(1, 0, 20, 1, 0, 2, 0, 2, 0, 1, 0, 1, 49, 1, 2, 2,
            3486784401L % 1073741824, 3486784401L / 1073741824, 10000000000L % 1073741824, 10000000000L / 1073741824));
        x.years(1, 0, 1);
        due("digest() of 0", x.digest(), folded(1, 0, 20, 1, 0, 2, 0, 2, 0, 1, 0, 1, 49, 0, 0, 1, 1));
    }

    static void fiveHundredAndTwelveCalls() {
        sentence("An object is used for at most 512 calls after it has been made");
        BogBoards x = new BogBoards();
        for (int i = 0; i < 511; i++) {
            due("place(8), call " + i, x.place(8), -2);
        }
        due("status(0), the last call", x.status(0), 511);
        BogBoards y = bog("last 4;island 2;board 0 1 20 1;walker 4 0 1;walker 3 4 0;");
        for (int calls = 9; calls + 4 <= 512; calls += 4) {
            due("fewest()", y.fewest(), 12);
            due("act(8)", y.act(8), 1);
            due("fewest()", y.fewest(), 11);
            due("undo()", y.undo(), 1);
        }
    }
}
