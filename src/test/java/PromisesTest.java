/** For each promise: ordinary inputs, the edges that the document names, and wrong inputs. */
public final class PromisesTest {
    private static int wrong;
    private static int promise;

    private static void due(String call, long got, long want) {
        if (got != want) {
            wrong++;
            System.out.println("promise " + promise + ": " + call + " answered " + got + ", due is " + want);
        }
    }

    private static void type(BogBoards x, String text) {
        for (int i = 0; i < text.length(); i++) {
            x.type(text.charAt(i), 1);
        }
    }

    private static int read(BogBoards x, String text) {
        x.clear();
        type(x, text);
        return x.read();
    }

    private static BogBoards bog(String text) {
        BogBoards x = new BogBoards();
        due("read of " + text, Math.min(0, read(x, text)), 0);
        return x;
    }

    private static void rule(BogBoards x, String rule) {
        x.erase();
        for (int i = 0; i < rule.length(); i++) {
            x.write(rule.charAt(i));
        }
    }

    private static void fault(String rule, int want) {
        BogBoards x = new BogBoards();
        rule(x, rule);
        due("fault of '" + rule + "'", x.fault(), want);
    }

    private static void broken(String text, int place) {
        due("read of '" + text + "'", read(new BogBoards(), text), -10 - place);
    }

    private static void mist(String text, String rule, int rounds, int loser, int there, int gone) {
        BogBoards x = bog(text);
        rule(x, rule);
        long before = x.digest();
        due("mist of " + rule + ", who was lost", x.mist(rounds, 0), loser);
        due("mist of " + rule + ", how many are there", x.mist(rounds, 1), there);
        due("mist of " + rule + ", rounds gone", x.mist(rounds, 2), gone);
        due("digest behind mist", x.digest(), before);
    }

    private static void fraction(BogBoards x, long[] above, long[] below) {
        due("sign(0)", x.sign(0), above.length == 0 ? 0 : 1);
        due("sign(1)", x.sign(1), above.length);
        due("sign(2)", x.sign(2), below.length);
        for (int i = 0; i <= above.length; i++) {
            due("limb(0, " + i + ")", x.limb(0, i), i < above.length ? above[i] : -1);
        }
        for (int i = 0; i <= below.length; i++) {
            due("limb(1, " + i + ")", x.limb(1, i), i < below.length ? below[i] : -1);
        }
    }

    private static void refusals(BogBoards x, int bad, int no, int full) {
        due("status(0)", x.status(0), bad);
        due("status(1)", x.status(1), no);
        due("status(2)", x.status(2), full);
    }

    private static void newObject() {
        BogBoards x = new BogBoards();
        int[] counts = {0, 0, 0, 0, 0, 7};
        for (int i = 0; i < 6; i++) {
            due("count(" + i + ")", x.count(i), counts[i]);
        }
        for (int p = 0; p <= 7; p++) {
            due("place(" + p + ")", x.place(p), p == 0 || p == 7 ? 0 : 2);
        }
        due("fault()", x.fault(), 1);
        due("from(0)", x.from(0), -3);
        due("from(1)", x.from(1), -3);
        due("undo()", x.undo(), -3);
        refusals(x, 0, 3, 0);
        fraction(x, new long[] {}, new long[] {1});
        due("BogBoards.NONE", BogBoards.NONE, -1);
        due("BogBoards.BAD", BogBoards.BAD, -2);
        due("BogBoards.NO", BogBoards.NO, -3);
        due("BogBoards.FULL", BogBoards.FULL, -4);
    }

    private static void typing() {
        BogBoards x = new BogBoards();
        due("type(.., 0)", x.type(59, 0), -2);
        due("type(.., 9)", x.type(59, 9), -2);
        due("type(.., -1)", x.type(59, -1), -2);
        due("type of nothing but 59", x.type(59, 8), 8);
        due("clear()", x.clear(), 8);
        // 'last' and ' 1;' with a byte above that does not count.
        due("type(last)", x.type(0x6c617374L, 4), 4);
        due("type( 1;)", x.type(0x7f20313bL, 3), 7);
        due("read()", x.read(), 1);
        due("count(5)", x.count(5), 1);
        x.clear();
        for (int i = 1; i <= 24; i++) {
            due("type 8", x.type(-1L, 8), 8 * i);
        }
        due("type 7", x.type(-1L, 7), 199);
        due("type 2 of 1", x.type(-1L, 2), -4);
        due("type 9 when all but full", x.type(-1L, 9), -2);
        due("type the last", x.type(-1L, 1), 200);
        due("type when full", x.type(-1L, 1), -4);
        due("count(2)", x.count(2), 200);
        refusals(x, 4, 0, 2);
    }

    private static void clearing() {
        BogBoards x = new BogBoards();
        due("clear() of none", x.clear(), 0);
        x.type(59, 5);
        due("clear() of five", x.clear(), 5);
        due("count(2)", x.count(2), 0);
        due("clear() again", x.clear(), 0);
    }

    private static void reading() {
        broken("", 0);
        broken("   ", 3);
        broken("last", 4);
        broken("last ", 5);
        broken("last 3", 6);
        broken("last 3 ", 7);
        broken("last 0;", 5);
        broken("last 8;", 5);
        broken("last 123;", 5);
        broken("last 007;", 5);
        broken("last x;", 5);
        broken("last;", 4);
        broken(" lasts 3;", 1);
        broken("las 3;", 0);
        broken("cast 3;", 0);
        broken("lash 3;", 0);
        broken("last 3;asland 1;", 7);
        broken("last 3;talker 1 0 0;", 7);
        broken("last 3;hoard 0 1 1 1;", 7);
        broken("Last 3;", 0);
        broken("3;", 0);
        broken(";", 0);
        broken("walker 1 0 0;last 3;", 0);
        broken("last 3;last 3;", 7);
        broken("last 3;;", 7);
        broken("last 3 4;", 7);
        broken("last 3;isle 1;", 7);
        broken("last 3;island 0;", 14);
        broken("last 3;island 3;", 14);
        broken("last 1;island 1;", 14);
        broken("last 3;walker 0 0 0;", 14);
        broken("last 3;walker 10 0 0;", 14);
        broken("last 3;walker 1 4 0;", 16);
        broken("last 3;walker 1 0 2;", 18);
        broken("last 3;walker 1 0;", 17);
        broken("last 3;walker 1 0 0 0;", 20);
        broken("last 3;walker 1 0 0;walker 1 0 0;walker 1 0 0;walker 1 0 0;", 46);
        broken("last 3;board 6 1 1 1;", 13);
        broken("last 3;board 0 0 1 1;", 15);
        broken("last 3;board 0 4 1 1;", 15);
        broken("last 3;board 0 1 0 1;", 17);
        broken("last 3;board 0 1 31 1;", 17);
        broken("last 3;board 0 1 125 1;", 17);
        broken("last 3;board 0 2 1 3;", 19);
        broken("last 3;board 2 3 1 1;", 19);
        broken("last 3;board 4 1 1 3;", 19);
        broken("last 3;board 0 2 1 0;board 0 1 1 1;", 33);
        broken("last 3;board 0 1 1 2;board 2 1 1 1;", 33);
        broken("last 3;board 0 1 1 0;board 0 1 1 1;board 0 1 1 2;", 35);
        broken("last 3;walkerz 1 0 0;", 7);
        broken("last 3;walker{ 1 0 0;", 13);
        broken("last 3;walker` 1 0 0;", 13);
        broken("last 3;walker : 0 0;", 14);
        broken("last 3;walker / 0 0;", 14);
        broken("last 3;\n", 7);
        broken("last 3;island\u00e9 1;", 13);
        BogBoards x = new BogBoards();
        due("read, all close", read(x, "last3;island1;board 0 01 09 02;walker9 0 1 ;  "), 4);
        due("place(1)", x.place(1), 1);
        due("board(0, 2)", x.board(0, 2), 9);
        due("count(2) behind read", x.count(2), 46);
        due("act(8)", x.act(8), 1);
        due("act(8)", x.act(8), 1);
        rule(x, "a");
        x.years(1, 5, 0);
        long before = x.digest();
        due("broken read", read(x, "last 3;island 1;boards"), -26);
        x.clear();
        type(x, "last3;island1;board 0 01 09 02;walker9 0 1 ;  ");
        due("digest behind a broken read", x.digest(), before);
        due("read that is not well: wet", read(x, "last 3;walker 1 1 0;"), -3);
        due("read that is not well: too much", read(x, "last 3;board 0 1 5 1;walker 3 1 0;walker 3 1 0;"), -3);
        due("read that is not well: half", read(x, "last 3;board 1 1 1 1;walker 1 1 0;"), -3);
        due("count(4)", x.count(4), 2);
        refusals(x, 0, 3, 0);
        due("read just well, board told later", read(x, "last 3;walker 3 1 0;walker 2 1 0;board 0 1 5 1;"), 4);
        due("what may be undone goes with the bog", x.count(4), 0);
        due("the rule stays", x.count(3), 1);
        due("the fraction stays", x.sign(0), 1);
        due("fewest with land, an island told twice", read(x, "last 4;island 2;island 2;"), 3);
        due("count(0)", x.count(0), 0);
    }

    private static void places() {
        BogBoards x = bog("last 4;island 2;board 0 1 9 3;");
        int[] what = {0, 2, 1, 2, 0};
        int[] firm = {1, 0, 1, 1, 1};
        for (int p = 0; p <= 4; p++) {
            promise = 5;
            due("place(" + p + ")", x.place(p), what[p]);
            promise = 6;
            due("firm(" + p + ")", x.firm(p), firm[p]);
        }
        due("place(-1)", x.place(-1), -2);
        due("place(5)", x.place(5), -2);
        due("firm(-1)", x.firm(-1), -2);
        due("firm(5)", x.firm(5), -2);
        due("firm(Integer.MIN_VALUE)", x.firm(Integer.MIN_VALUE), -2);
        refusals(x, 5, 0, 0);
    }

    private static void walkers() {
        BogBoards x = bog("last 4;board 0 1 20 1;walker 9 0 1;walker 1 4 0;");
        int[] first = {0, 4, -1, 9};
        int[] second = {4, 0, -1, 1};
        for (int what = 0; what < 4; what++) {
            due("walker(0, " + what + ")", x.walker(0, what), first[what]);
            due("walker(1, " + what + ")", x.walker(1, what), second[what]);
        }
        x.act(512);
        due("walker(0, 2)", x.walker(0, 2), 0);
        due("walker(0, 3)", x.walker(0, 3), 11);
        due("walker(2, 0)", x.walker(2, 0), -10);
        due("walker(-1, 0)", x.walker(-1, 0), -10);
        due("walker(0, 4)", x.walker(0, 4), -10);
        due("walker(0, -1)", x.walker(0, -1), -10);
        refusals(x, 4, 0, 0);
    }

    private static void boards() {
        int[][] kinds = {{1, 7}, {1, 3}, {2, 7}, {1, 14}, {2, 7}, {1, 14}};
        for (int kind = 0; kind < 6; kind++) {
            BogBoards x = bog("last 4;board " + kind + " 1 7 1;");
            due("board of kind " + kind + ": length", x.board(0, 1), kinds[kind][0]);
            due("board of kind " + kind + ": bears", x.board(0, 2), kinds[kind][1]);
        }
        BogBoards x = bog("last 4;board 0 2 20 1;board 0 1 20 4;walker 3 2 1;walker 2 4 1;walker 1 4 0;");
        due("board(0, 0)", x.board(0, 0), 1);
        due("board(0, 3)", x.board(0, 3), 3);
        due("board(1, 0)", x.board(1, 0), 4);
        due("board(1, 3)", x.board(1, 3), 3);
        BogBoards y = bog("last 2;board 0 1 20 1;walker 3 0 1;");
        y.act(512);
        due("board that is carried", y.board(0, 0), -1);
        due("board that is carried: on it", y.board(0, 3), 0);
        due("board(1, 0)", y.board(1, 0), -10);
        due("board(-1, 0)", y.board(-1, 0), -10);
        due("board(0, 4)", y.board(0, 4), -10);
        due("board(0, -1)", y.board(0, -1), -10);
        refusals(y, 4, 0, 0);
    }

    private static void whys() {
        BogBoards x = bog("last 4;island 1;board 0 1 6 2;walker 4 0 1;walker 3 1 1;");
        int[][] due = {{-1, 1}, {Integer.MIN_VALUE, 1}, {1024, 1}, {1032, 1}, {Integer.MAX_VALUE, 1}, {128, 1}, {16, 1},
            {1, 1}, {8, 0}, {0, 2}, {64, 0}, {72, 0}, {256, 2}, {258, 1}, {264, 1}, {512, 2}, {513, 1}, {520, 1}, {576, 0},
            {768, 2}, {769, 2}, {770, 1}, {776, 1}, {832, 2}};
        for (int[] d : due) {
            due("why(" + d[0] + ")", x.why(d[0]), d[1]);
        }
        x.act(72);
        x.act(8);
        due("why(8): 4 and 3 on a board that bears 6", x.why(8), 3);
        due("why(512): somebody stands on it", x.why(512), 2);
        due("why(72): wet", x.why(72), 2);
        BogBoards y = bog("last 4;island 2;board 0 1 20 1;walker 4 0 1;walker 3 2 0;walker 1 4 0;");
        y.act(512);
        due("take up another when it is carried", y.why(576), 2);
        due("hand over two places", y.why(769), 2);
        due("hand to himself", y.why(768), 2);
        due("lay back over the edge", y.why(256), 2);
        due("lay ahead", y.why(257), 0);
        due("lay what another carries", y.why(321), 2);
        refusals(y, 0, 0, 0);
    }

    private static void kindsThatAreTakenUp() {
        BogBoards rope = bog("last 4;island 3;board 4 1 9 1;walker 1 0 1;walker 1 0 1;");
        due("a rope alone", rope.why(512), 2);
        BogBoards helped = bog("last 4;island 3;board 4 1 9 1;walker 1 0 1;walker 1 3 0;");
        due("a rope with one at the other end", helped.why(512), 0);
        due("a rope by the other one", helped.why(576), 0);
        BogBoards frozen = bog("last 4;board 5 1 9 1;walker 1 0 1;");
        due("a frozen one", frozen.why(512), 2);
        BogBoards two = bog("last 6;board 0 1 9 1;board 0 1 9 5;walker 1 0 1;walker 1 6 0;");
        due("act(512)", two.act(512), 1);
        due("act(584)", two.act(584), 1);
        due("hand to one who carries", two.why(769), 2);
        BogBoards long3 = bog("last 6;island 1;board 2 2 9 2;walker 1 1 1;");
        due("act(512)", long3.act(512), 1);
        due("lay three places ahead", long3.why(257), 0);
        due("lay back over an island's land", long3.why(256), 2);
        due("act(8)", long3.act(0), 1);
        due("lay on an island", long3.why(257), 2);
        BogBoards heavy = bog("last 4;island 1;board 0 1 5 2;board 0 1 9 3;walker 4 2 1;walker 4 1 1;");
        due("taking up makes too heavy", heavy.why(520), 3);
        due("wrong(-1)", heavy.wrong(-1), 2);
    }

    private static void layingOverTheEdge() {
        for (int last = 2; last <= 7; last++) {
            BogBoards ahead = bog("last " + last + ";board 0 1 9 " + (last - 1) + ";walker 1 " + last + " 0;");
            due("act(512)", ahead.act(512), 1);
            due("lay ahead over the edge", ahead.why(257), 2);
            due("lay back", ahead.why(256), 0);
            BogBoards back = bog("last " + last + ";board 0 1 9 1;walker 1 0 1;");
            due("act(512)", back.act(512), 1);
            due("lay back over the edge", back.why(256), 2);
            due("lay ahead", back.why(257), 0);
        }
        BogBoards middle = bog("last 4;island 3;board 0 2 9 1;walker 1 3 1;");
        due("act(512)", middle.act(512), 1);
        due("lay ahead on land and over the edge", middle.why(257), 2);
        due("act(8)", middle.act(8), 1);
        due("lay back on an island", middle.why(256), 2);
    }

    private static void acting() {
        BogBoards x = bog("last 3;board 0 1 6 1;walker 4 0 1;walker 3 0 1;");
        due("act(8)", x.act(8), 1);
        due("walker(0, 0)", x.walker(0, 0), 1);
        due("act(72): not well", x.act(72), -3);
        due("act(8): wet", x.act(8), -3);
        due("act(-1)", x.act(-1), -3);
        due("act(1032): a leap", x.act(1032), -3);
        refusals(x, 0, 4, 0);
        due("act(0)", x.act(0), 1);
        due("act(512)", x.act(512), 1);
        due("carried", x.walker(0, 2), 0);
        due("hand", x.act(769), 1);
        due("carried by the other", x.walker(1, 2), 0);
        due("lay", x.act(321), 1);
        due("where it lies", x.board(0, 0), 1);
        BogBoards y = bog("last 5;island 4;board 0 2 9 2;walker 1 4 0;");
        y.act(512);
        due("lay back", y.act(256), 1);
        due("least place", y.board(0, 0), 2);
    }

    private static void undoing() {
        BogBoards x = bog("last 3;island 1;island 2;walker 4 0 1;");
        due("undo of none", x.undo(), -3);
        int[] acts = {8, 8, 8, 0, 0, 0, 8, 8, 8};
        for (int i = 0; i < 9; i++) {
            due("act(" + acts[i] + ")", x.act(acts[i]), 1);
            due("count(4)", x.count(4), Math.min(8, i + 1));
        }
        int[] places = {2, 1, 0, 1, 2, 3, 2, 1};
        for (int place : places) {
            due("undo()", x.undo(), 1);
            due("walker(0, 0)", x.walker(0, 0), place);
        }
        due("undo past eight", x.undo(), -3);
        due("walker(0, 0)", x.walker(0, 0), 1);
        x.act(8);
        rule(x, "a");
        x.act(99);
        due("undo()", x.undo(), 1);
        due("the rule stays", x.count(3), 1);
        refusals(x, 0, 3, 0);
    }

    private static void overs() {
        due("over() of nobody", new BogBoards().over(), 1);
        BogBoards x = bog("last 1;walker 4 0 1;walker 1 0 0;");
        due("over()", x.over(), 0);
        x.act(8);
        due("over()", x.over(), 1);
        x.act(72);
        due("over(), one too far", x.over(), 0);
    }

    private static void fewests() {
        due("fewest() of nobody", new BogBoards().fewest(), 0);
        due("row(0) of nobody", new BogBoards().row(0), -5);
        BogBoards x = bog("last 3;board 0 1 20 1;walker 4 0 1;walker 3 0 1;");
        due("fewest() that can not be", x.fewest(), -1);
        due("row(0)", x.row(0), -5);
        due("row(-1)", x.row(-1), -10);
        BogBoards y = bog("last 4;island 2;board 0 1 20 1;walker 4 0 1;walker 3 4 0;");
        int[] row = {8, 8, 512, 257, 8, 8, 64, 64, 576, 320, 64, 64};
        promise = 13;
        due("fewest()", y.fewest(), 12);
        promise = 14;
        for (int i = 0; i < row.length; i++) {
            due("row(" + i + ")", y.row(i), row[i]);
        }
        due("row(12)", y.row(12), -5);
        due("row(Integer.MAX_VALUE)", y.row(Integer.MAX_VALUE), -5);
        due("row(-1)", y.row(-1), -10);
        due("lost(0) between", y.lost(0), -1);
        due("row(2) behind lost", y.row(2), 512);
        y.act(8);
        due("fewest() behind an act", y.fewest(), 11);
        due("row(0) behind an act", y.row(0), 8);
        y.undo();
        due("fewest() behind undo", y.fewest(), 12);
        y.image(0);
        read(y, "last 2;island 1;walker 1 0 1;");
        due("fewest() behind read", y.fewest(), 2);
        y.from(0);
        due("fewest() behind from", y.fewest(), 12);
        refusals(y, 1, 0, 0);
    }

    private static void losts() {
        BogBoards x = bog("last 3;island 1;board 0 1 20 2;board 0 1 20 0;walker 4 1 1;walker 1 3 1;");
        due("lost(0): the other one is laid there", x.lost(0), 4);
        due("lost(1)", x.lost(1), 2);
        due("lost(2)", x.lost(2), -2);
        due("lost(-1)", x.lost(-1), -2);
        x.act(8);
        due("lost(0), he stands on it", x.lost(0), -1);
        BogBoards land = bog("last 3;board 0 1 20 3;walker 4 3 1;");
        due("lost(0), he stands on it on land, over already", land.lost(0), -1);
        BogBoards carried = bog("last 2;island 1;board 0 1 6 0;walker 5 1 0;");
        due("fewest()", carried.fewest(), 1);
        carried.act(512);
        due("fewest() with too much", carried.fewest(), 1);
        due("lost(0) that is carried", carried.lost(0), 1);
        BogBoards heavy = bog("last 3;island 1;board 5 1 3 2;board 0 1 9 0;walker 5 1 1;");
        heavy.act(520);
        due("fewest(): 7 on 6, so he lays it", heavy.fewest(), -1);
        due("lost(1): 5 on 6", heavy.lost(1), 2);
        refusals(x, 2, 0, 0);
    }

    private static void leaping() {
        BogBoards x = bog("last 4;island 2;walker 4 0 1;walker 3 4 0;");
        due("leaps(-1): four are too many", x.leaps(-1), -1);
        due("leaps(0)", x.leaps(0), -2);
        due("leaps(-2)", x.leaps(-2), -2);
        refusals(x, 2, 0, 0);
        due("leaps, one walker", bog("last 4;island 2;walker 4 0 1;").leaps(-1), 2);
        due("leaps, three", bog("last 6;island 2;island 4;walker 4 0 1;").leaps(-1), 3);
        due("leaps, three walkers", bog("last 2;walker 4 0 1;walker 1 0 1;walker 3 2 0;").leaps(-1), 3);
        due("leaps over two wet ones", bog("last 3;walker 4 0 1;").leaps(-1), -1);
        due("leaps of none", bog("last 2;island 1;walker 4 0 1;").leaps(-1), 0);
        due("leaps of nobody", new BogBoards().leaps(-1), 0);
        BogBoards y = bog("last 4;island 2;board 0 1 5 3;walker 4 0 1;walker 9 4 0;");
        // The heavy one leaps with the board and lays it for the other one, for whom he takes it up again.
        due("leaps(-1): 9 are too much for the board", y.leaps(-1), 2);
        due("leaps(0): without the board", y.leaps(0), -1);
        due("the acts are no leaps", y.why(1024 + 8), 1);
        BogBoards on = bog("last 2;board 0 1 5 1;walker 4 1 1;");
        due("leaps(0), he stands on it", on.leaps(0), -1);
        due("leaps(-1)", on.leaps(-1), 0);
        due("leaps onto a board that bears too little",
            bog("last 4;board 0 1 3 2;walker 4 0 1;").leaps(-1), -1);
        due("leaps onto a board", bog("last 4;board 0 1 4 2;walker 4 0 1;").leaps(-1), 2);
    }

    private static void wrongs() {
        BogBoards x = bog("last 4;board 0 2 8 1;walker 4 0 1;walker 5 1 1;walker 9 0 0;");
        due("wrong(-1)", x.wrong(-1), 2);
        due("wrong(0)", x.wrong(0), 8);
        due("wrong(1)", x.wrong(1), 136);
        due("wrong(2)", x.wrong(2), -5);
        due("wrong(-2)", x.wrong(-2), -10);
        due("wrong(Integer.MIN_VALUE)", x.wrong(Integer.MIN_VALUE), -10);
        due("wrong(-1) of nobody", new BogBoards().wrong(-1), 0);
        due("wrong(0) of nobody", new BogBoards().wrong(0), -5);
        refusals(x, 2, 0, 0);
        BogBoards hand = bog("last 4;island 1;board 0 1 9 0;board 0 1 5 2;walker 4 2 1;walker 1 1 1;");
        hand.act(576);
        due("wrong(-1), handing and one more on the board", hand.wrong(-1), 2);
        due("wrong(0)", hand.wrong(0), 72);
        due("wrong(1)", hand.wrong(1), 832);
    }

    private static void rules() {
        BogBoards x = new BogBoards();
        promise = 18;
        due("write(0)", x.write(0), 1);
        due("write(127)", x.write(127), 2);
        due("write(-1)", x.write(-1), -2);
        due("write(128)", x.write(128), -2);
        promise = 19;
        due("erase()", x.erase(), 2);
        due("count(3)", x.count(3), 0);
        due("erase() again", x.erase(), 0);
        promise = 18;
        for (int i = 1; i <= 40; i++) {
            due("write(32)", x.write(32), i);
        }
        due("write when full", x.write(97), -4);
        due("write a bad one when full", x.write(200), -2);
        refusals(x, 3, 0, 1);
        promise = 20;
        due("fault of 40 blanks", x.fault(), 401);
    }

    private static void faults() {
        String[] whole = {"1", "a", "999999", " a ", "a|b|c", "a & b&n", "1<2&3>4|k=t", "(1<2)<3", "(1<2)=(a)", "1+2-3*4/5",
            "!!!a", "- - -1", "!-!(a)", "((((((((a))))))))", "(a)+((b))", "1--1", "1<-1", "000000", "( ( a ) )", "a*!b"};
        for (String rule : whole) {
            fault(rule, -1);
        }
        fault("", 1);
        fault("   ", 31);
        fault("x", 1);
        fault("a b", 21);
        fault("1 2", 21);
        fault("a1", 11);
        fault("1a", 11);
        fault("aa", 11);
        fault("a+", 21);
        fault("a+ ", 31);
        fault("+a", 1);
        fault("a+*b", 21);
        fault("a!", 11);
        fault("a!b", 11);
        fault("1<2<3", 31);
        fault("1<2=3", 31);
        fault("a=<b", 21);
        fault("(1<2<3)", 41);
        fault("a)", 11);
        fault("(a", 21);
        fault("(a ", 31);
        fault("()", 11);
        fault("(", 11);
        fault("!", 11);
        fault("a||b", 21);
        fault("1234567", 2);
        fault("a+ 1234567", 32);
        fault("12345678 x", 2);
        fault("(((((((((", 83);
        fault(" ( ( ( ( ( ( ( ( (", 173);
        fault("(((((((((a)))))))))", 83);
        fault("((((((((a(", 91);
        fault("(a)+((((((((a))))))))", -1);
        fault("(a)+(((((((((", 123);
        fault("A", 1);
        fault("a\tb", 11);
    }

    private static void mists() {
        String road = "last 3;island 1;island 2;walker 4 0 1;walker 3 3 0;";
        mist(road, "1", 0, -1, 0, 0);
        mist(road, "1", 2, -1, 0, 2);
        mist(road, "1", 3, -1, 2, 3);
        mist(road, "1", 40, -1, 2, 40);
        mist(road, "5", 3, -1, 2, 3);
        mist(road, "-3", 3, -1, 2, 3);
        mist(road, "-1", 3, -1, 0, 3);
        mist(road, "4", 3, -1, 0, 3);
        mist(road, "1+", 3, -1, 0, 3);
        mist(road, "k", 3, -1, 1, 3);
        mist(road, "1-k", 3, -1, 1, 3);
        mist(road, "t>0", 3, -1, 0, 3);
        mist(road, "t>0", 4, -1, 2, 4);
        mist(road, "n<1", 3, -1, 0, 3);
        mist(road, "n<1|k", 3, -1, 1, 3);
        mist(road, "a", 3, -1, 2, 3);
        mist(road, "7/0+1", 3, -1, 2, 3);
        mist(road, "-7/2+4", 3, -1, 2, 3);
        mist(road, "2<3", 3, -1, 2, 3);
        mist(road, "3<2|2=3|2>3", 3, -1, 0, 3);
        mist(road, "5&9", 3, -1, 2, 3);
        mist(road, "5&0|0", 3, -1, 0, 3);
        mist(road, "!7+!0", 3, -1, 2, 3);
        mist(road, "10-3-2", 3, -1, 2, 3);
        mist(road, "2+3*5", 3, -1, 2, 3);
        mist(road, "18/2/3+2", 3, -1, 2, 3);
        mist(road, "999999*999999*999999*999999", 3, -1, 2, 3);
        mist(road, "3-2*-3", 3, -1, 2, 3);
        mist("last 3;island 1;walker 4 0 1;", "1", 40, 0, 0, 2);
        mist("last 3;island 1;walker 4 0 1;walker 4 3 0;", "1", 40, 1, 0, 1);
        mist("last 3;island 1;walker 4 3 1;walker 4 1 1;", "1", 40, 1, 1, 1);
        mist("last 3;board 0 2 8 1;walker 4 0 1;walker 5 0 1;", "1", 40, 1, 0, 1);
        mist("last 3;board 0 2 9 1;walker 4 0 1;walker 5 0 1;", "1", 40, -1, 2, 40);
        mist("last 3;board 0 2 9 1;walker 4 0 1;walker 5 3 0;", "2", 40, -1, 0, 40);
        // He crosses, takes up the board behind him, lays it ahead, and crosses again.
        String two = "last 4;island 2;board 0 1 9 1;walker 4 0 1;";
        mist(two, "c*2*!a+!c*(3*b+!b*a)+c*a", 40, -1, 1, 40);
        mist(two, "c*2*!a+!c*(3*b+!b*a)+c*a", 5, -1, 0, 5);
        mist(two, "c*2*!a+!c*(3*b+!b*a)+c*a", 6, -1, 1, 6);
        mist(two, "3*b+!b", 40, 0, 0, 4);
        mist(two, "3", 40, -1, 0, 40);
        // Taking up makes him too heavy for what he stands on: he may not (b), and is lost if he does.
        String heavy = "last 4;island 1;board 0 1 5 2;board 0 1 9 3;walker 4 2 0;";
        mist(heavy, "3", 40, 0, 0, 1);
        mist(heavy, "3*b", 40, -1, 0, 40);
        mist("last 4;island 3;board 4 1 9 1;walker 1 3 1;", "3*b+!b", 40, -1, 1, 40);
        mist("last 4;island 3;board 4 1 9 1;walker 1 3 1;walker 1 0 0;", "3*b", 1, -1, 1, 1);
        BogBoards x = new BogBoards();
        due("mist(-1, 0)", x.mist(-1, 0), -2);
        due("mist(41, 0)", x.mist(41, 0), -2);
        due("mist(0, -1)", x.mist(0, -1), -2);
        due("mist(0, 3)", x.mist(0, 3), -2);
        due("mist(40, 0)", x.mist(40, 0), -1);
        due("mist(40, 2)", x.mist(40, 2), 40);
        refusals(x, 4, 0, 0);
    }

    private static void yearsOfABog() {
        BogBoards x = bog("last 3;walker 4 0 1;");
        rule(x, "1");
        promise = 22;
        due("years(1, 3, 1)", x.years(1, 3, 1), 1);
        fraction(x, new long[] {3}, new long[] {10});
        due("years(1, 4, 1)", x.years(1, 4, 1), 1);
        fraction(x, new long[] {2}, new long[] {5});
        due("years(3, 5, 2)", x.years(3, 5, 2), 1);
        fraction(x, new long[] {1}, new long[] {2});
        due("years(3, 5, 0)", x.years(3, 5, 0), 1);
        fraction(x, new long[] {1}, new long[] {1});
        due("years(20, 0, 1)", x.years(20, 0, 1), 1);
        fraction(x, new long[] {}, new long[] {1});
        due("years(20, 10, 20)", x.years(20, 10, 20), 1);
        fraction(x, new long[] {1}, new long[] {1});
        due("years(20, 1, 20)", x.years(20, 1, 20), 1);
        // 10 to the 20th, the lowest first.
        fraction(x, new long[] {1}, limbs("100000000000000000000"));
        rule(x, "a");
        due("years(4, 5, 1), nobody is lost", x.years(4, 5, 1), 1);
        fraction(x, new long[] {}, new long[] {1});
        due("years(4, 5, 0), nobody is lost", x.years(4, 5, 0), 1);
        fraction(x, new long[] {1}, new long[] {1});
        // Lost in the fortieth round is lost; in a forty-first it would not be.
        rule(x, "t=39");
        x.years(1, 10, 1);
        due("sign(0), lost at the end", x.sign(0), 1);
        rule(x, "t=40");
        x.years(1, 10, 1);
        due("sign(0), lost too late", x.sign(0), 0);
        rule(x, "1+");
        x.years(1, 10, 1);
        due("sign(0), the rule is broken", x.sign(0), 0);
        x.years(2, 5, 0);
        int[][] bad = {{0, 5, 0}, {21, 5, 0}, {5, -1, 0}, {5, 11, 0}, {5, 5, -1}, {5, 5, 6}};
        for (int[] b : bad) {
            due("years(" + b[0] + ", " + b[1] + ", " + b[2] + ")", x.years(b[0], b[1], b[2]), -2);
        }
        fraction(x, new long[] {1}, new long[] {1});
        promise = 23;
        due("sign(-1)", x.sign(-1), -2);
        due("sign(3)", x.sign(3), -2);
        promise = 24;
        due("limb(-1, 0)", x.limb(-1, 0), -2);
        due("limb(2, 0)", x.limb(2, 0), -2);
        due("limb(0, -1)", x.limb(0, -1), -2);
        due("limb(1, 1)", x.limb(1, 1), -1);
        due("limb(0, Integer.MAX_VALUE)", x.limb(0, Integer.MAX_VALUE), -1);
        refusals(x, 11, 0, 0);
    }

    private static long[] limbs(String number) {
        java.math.BigInteger n = new java.math.BigInteger(number);
        java.math.BigInteger base = java.math.BigInteger.valueOf(1073741824);
        java.util.List<Long> limbs = new java.util.ArrayList<>();
        for (; n.signum() > 0; n = n.divide(base)) {
            limbs.add(n.mod(base).longValue());
        }
        return limbs.stream().mapToLong(Long::longValue).toArray();
    }

    private static void images() {
        BogBoards x = bog("last 3;board 0 1 9 1;walker 4 0 1;");
        promise = 25;
        rule(x, "1");
        x.act(8);
        due("image(0)", x.image(0), 1);
        due("image(-1)", x.image(-1), -2);
        due("image(2)", x.image(2), -2);
        long kept = x.digest();
        int length = x.count(2);
        x.act(0);
        x.act(512);
        rule(x, "a+b");
        due("image(1)", x.image(1), 1);
        promise = 26;
        due("from(0)", x.from(0), 1);
        due("digest", x.digest(), kept);
        due("what may be undone is kept", x.count(4), 1);
        due("the rule is kept", x.fault(), -1);
        due("undo()", x.undo(), 1);
        due("walker(0, 0)", x.walker(0, 0), 0);
        due("from(1)", x.from(1), 1);
        due("count(3)", x.count(3), 3);
        due("count(4)", x.count(4), 3);
        due("walker(0, 2)", x.walker(0, 2), 0);
        read(x, "last 2;");
        x.years(1, 3, 0);
        due("from(0) again", x.from(0), 1);
        due("count(5)", x.count(5), 3);
        due("the text stays", x.count(2), 7);
        due("the fraction stays", x.sign(0), 1);
        due("count(2) was", length, 34);
        due("from(2)", x.from(2), -2);
        due("from(-1)", x.from(-1), -2);
        due("from(1) of a new one", new BogBoards().from(1), -3);
        refusals(x, 4, 0, 0);
    }

    private static void statuses() {
        BogBoards x = new BogBoards();
        due("status(-1)", x.status(-1), -1);
        due("status(3)", x.status(3), -1);
        x.act(0);
        x.undo();
        x.type(0, 9);
        refusals(x, 3, 2, 0);
        read(x, "");
        x.row(0);
        x.fewest();
        x.limb(0, 7);
        x.why(-4);
        refusals(x, 3, 2, 0);
    }

    private static void counts() {
        BogBoards x = bog("last 5;board 0 1 9 1;board 0 1 9 2;walker 4 0 1;");
        rule(x, "abc");
        x.act(8);
        int[] due = {1, 2, 48, 3, 1, 5};
        for (int what = 0; what < 6; what++) {
            due("count(" + what + ")", x.count(what), due[what]);
        }
        due("count(-1)", x.count(-1), -2);
        due("count(6)", x.count(6), -2);
        refusals(x, 2, 0, 0);
    }

    private static long folded(long... values) {
        long h = 653;
        for (long v : values) {
            h = 31 * h + v;
        }
        return h;
    }

    private static void digests() {
        BogBoards x = new BogBoards();
        due("digest() of a new one", x.digest(), folded(0, 0, 0, 0, 0, 7, 0, 2, 2, 2, 2, 2, 2, 0, 0, 0, 1, 1));
        due("read()", read(x, "last 4;island 2;board 2 1 9 1;board 1 1 7 3;walker 4 0 1;walker 9 4 0;"), 6);
        rule(x, "1");
        due("act(584)", x.act(584), 1);
        x.years(1, 3, 0);
        due("digest()", x.digest(), folded(2, 2, 70, 1, 1, 4, 0, 2, 1, 2, 0, 4, 0, 1, 9, 4, 0,
            2, 1, 9, 1, 1, 1, 7, 9, 49, 1, 1, 1, 1, 1));
        rule(x, "");
        x.years(1, 3, 1);
        due("digest() of the fraction 0", x.digest(), folded(2, 2, 70, 0, 1, 4, 0, 2, 1, 2, 0, 4, 0, 1, 9, 4, 0,
            2, 1, 9, 1, 1, 1, 7, 9, 0, 0, 1, 1));
    }

    public static void main(String[] args) {
        promise = 1;
        newObject();
        promise = 2;
        typing();
        promise = 3;
        clearing();
        promise = 4;
        reading();
        promise = 5;
        places();
        promise = 7;
        walkers();
        promise = 8;
        boards();
        promise = 9;
        whys();
        kindsThatAreTakenUp();
        layingOverTheEdge();
        promise = 10;
        acting();
        promise = 11;
        undoing();
        promise = 12;
        overs();
        promise = 13;
        fewests();
        promise = 15;
        losts();
        promise = 16;
        leaping();
        promise = 17;
        wrongs();
        rules();
        faults();
        promise = 21;
        mists();
        yearsOfABog();
        images();
        promise = 27;
        statuses();
        promise = 28;
        counts();
        promise = 29;
        digests();
        System.out.println(wrong == 0 ? "all promises hold" : wrong + " answers are not as due");
        if (wrong != 0) {
            System.exit(1);
        }
    }
}
