import java.math.BigInteger;
import java.util.ArrayList;
import java.util.Arrays;
import java.util.HashMap;
import java.util.List;
import java.util.Map;
import java.util.TreeMap;

/** Long runs of calls, made by a fixed sequence of numbers, against a second, slow and wholly different build. */
public final class ModelTest {
    private static final int RUNS = 400, CALLS = 512;
    private static long seed = 20261118L;
    private static int wrong;

    private static int pick(int bound) {
        seed = seed * 6364136223846793005L + 1442695040888963407L;
        return (int) ((seed >>> 33) % bound);
    }

    public static void main(String[] args) {
        long calls = 0;
        for (int run = 0; run < RUNS && wrong < 5; run++) {
            calls += play(run);
        }
        System.out.println(wrong == 0 ? calls + " calls are as in the model" : wrong + " runs are not as in the model");
        if (wrong != 0) {
            System.exit(1);
        }
    }

    private static int play(int run) {
        BogBoards real = new BogBoards();
        Model model = new Model();
        List<String> told = new ArrayList<>();
        int calls = 0;
        while (calls < CALLS) {
            List<long[]> plan = plan(model);
            for (long[] call : plan) {
                if (calls++ >= CALLS) {
                    break;
                }
                long got = call(real, call);
                long want = model.call(call);
                told.add(Arrays.toString(call) + " " + got);
                if (got != want) {
                    wrong++;
                    System.out.println("run " + run + ": " + told.subList(Math.max(0, told.size() - 40), told.size()));
                    System.out.println("  text '" + model.text + "' rule '" + model.rule + "' due is " + want);
                    return calls;
                }
            }
        }
        return calls;
    }

    /** Numbers of the calls, as the face has them from type() on. */
    static long call(BogBoards x, long[] c) {
        int a = c.length > 1 ? (int) c[1] : 0;
        int b = c.length > 2 ? (int) c[2] : 0;
        switch ((int) c[0]) {
            case 0: return x.type(c[1], b);
            case 1: return x.clear();
            case 2: return x.read();
            case 3: return x.place(a);
            case 4: return x.firm(a);
            case 5: return x.walker(a, b);
            case 6: return x.board(a, b);
            case 7: return x.why(a);
            case 8: return x.act(a);
            case 9: return x.undo();
            case 10: return x.over();
            case 11: return x.fewest();
            case 12: return x.row(a);
            case 13: return x.lost(a);
            case 14: return x.leaps(a);
            case 15: return x.wrong(a);
            case 16: return x.write(a);
            case 17: return x.erase();
            case 18: return x.fault();
            case 19: return x.mist(a, b);
            case 20: return x.years(a, b, (int) c[3]);
            case 21: return x.sign(a);
            case 22: return x.limb(a, b);
            case 23: return x.image(a);
            case 24: return x.from(a);
            case 25: return x.status(a);
            case 26: return x.count(a);
            default: return x.digest();
        }
    }

    private static List<long[]> plan(Model model) {
        List<long[]> plan = new ArrayList<>();
        int what = pick(20);
        if (what == 0 || model.walkers.isEmpty() && what < 10) {
            planText(plan, model);
        } else if (what < 3) {
            planRule(plan);
        } else if (what < 12) {
            planActs(plan, model);
        } else {
            planQuestion(plan, model);
        }
        if (pick(4) == 0) {
            plan.add(new long[] {27});
        }
        return plan;
    }

    private static void planText(List<long[]> plan, Model model) {
        if (pick(12) != 0) {
            plan.add(new long[] {1});
        }
        String text = pick(3) == 0 ? spoilt(bogText()) : bogText();
        for (int i = 0; i < text.length(); i += 8) {
            int n = Math.min(8, text.length() - i);
            long v = pick(2) == 0 ? 0 : -1;
            for (int j = 0; j < n; j++) {
                v = v << 8 | text.charAt(i + j);
            }
            plan.add(new long[] {0, v, n});
        }
        plan.add(new long[] {2});
    }

    private static String number(int value) {
        return value < 10 && pick(12) == 0 ? "0" + value : "" + value;
    }

    private static String bogText() {
        StringBuilder text = new StringBuilder();
        int last = 1 + pick(7);
        text.append("last ").append(number(last)).append(";");
        List<String> items = new ArrayList<>();
        boolean[] firm = new boolean[12];
        firm[0] = true;
        firm[last] = true;
        int islands = pick(4);
        for (int i = 0; i < islands && last > 1; i++) {
            int p = 1 + pick(last - 1);
            firm[p] = true;
            items.add("island " + number(p) + ";");
        }
        int boards = pick(8) == 0 ? 3 : pick(3);
        boolean[] covered = new boolean[20];
        for (int i = 0; i < boards; i++) {
            int kind = pick(6);
            int length = pick(5) == 0 ? 2 + pick(2) : 1;
            int span = length + (kind == 2 || kind == 4 ? 1 : 0);
            int place = pick(last + 1);
            for (int tries = 0; tries < 9 && (place + span > last + 1 || covered[place]); tries++) {
                place = pick(last + 1);
            }
            for (int p = place; p < place + span; p++) {
                covered[p] = true;
                firm[p] = true;
            }
            items.add("board " + kind + " " + length + " " + number(1 + pick(pick(2) == 0 ? 30 : 12)) + " " + place + ";");
        }
        int walkers = pick(10) == 0 ? 4 : pick(8) == 0 ? 0 : 1 + pick(3);
        for (int i = 0; i < walkers; i++) {
            int place = pick(last + 1);
            for (int tries = 0; tries < 9 && !firm[place]; tries++) {
                place = pick(last + 1);
            }
            items.add("walker " + (1 + pick(pick(2) == 0 ? 9 : 4)) + " " + place + " " + pick(2) + ";");
        }
        while (!items.isEmpty()) {
            text.append(items.remove(pick(items.size())));
            if (pick(6) == 0) {
                text.append(' ');
            }
        }
        return text.toString();
    }

    private static String spoilt(String text) {
        String[] bits = {";", " ", "last", "island", "walker", "board", "0", "1", "2", "9", "10", "30", "31", "8", "100",
            "012", "A", "x", "\u00e9", "last 3;", "walker 1 0 1;", "board 0 1 5 0;", "", "", "island 1;"};
        int times = 1 + pick(2);
        String now = text;
        for (int i = 0; i < times; i++) {
            int from = pick(now.length() + 1);
            int to = Math.min(now.length(), from + pick(3));
            now = now.substring(0, from) + bits[pick(bits.length)] + now.substring(to);
        }
        return pick(5) == 0 ? now.substring(0, pick(now.length() + 1)) : now;
    }

    private static void planRule(List<long[]> plan) {
        String[] rules = {"1", "a", "2", "3", "a+2*(!a&c)+3*(!a&b)", "3*b+!b*(a+2*c*!a)", "t", "k+t", "n<2&a", "a&(n<1|k=0)",
            "c*2+!c*(3*b+!b*a)", "-1", "t/3*k-n", "1<2<3", "a|b|c", "!!a", "-!-a", "999999*999999*999999*999999", "b*3+a*!b",
            "a+2*c", "(a&n<2)+2*(c&!a)", "7/(n-n)+k", "- - 3", "a = b = c", "t>2&a", "3*b", "1000000", "((((((((a))))))))"};
        if (pick(10) != 0) {
            plan.add(new long[] {17});
        }
        StringBuilder rule = new StringBuilder(rules[pick(rules.length)]);
        if (pick(3) == 0) {
            rule.setLength(0);
            expression(rule, 0);
        }
        if (pick(3) == 0) {
            String signs = "()+-*/<>=&|!ancbkt0123456789 zA^";
            int times = 1 + pick(3);
            for (int i = 0; i < times; i++) {
                rule.insert(pick(rule.length() + 1), signs.charAt(pick(signs.length())));
            }
        }
        for (int i = 0; i < rule.length() && i < 42; i++) {
            plan.add(new long[] {16, rule.charAt(i)});
        }
        plan.add(new long[] {18});
        plan.add(new long[] {19, pick(41), pick(3)});
    }

    private static void expression(StringBuilder rule, int depth) {
        int what = pick(depth > 4 || rule.length() > 30 ? 4 : 9);
        if (what < 3) {
            rule.append("ancbkt".charAt(pick(6)));
        } else if (what == 3) {
            rule.append(pick(pick(4) == 0 ? 1200000 : 5));
        } else if (what == 4) {
            rule.append('(');
            expression(rule, depth + 1);
            rule.append(')');
        } else if (what == 5) {
            rule.append("!-".charAt(pick(2)));
            expression(rule, depth + 1);
        } else {
            expression(rule, depth + 1);
            rule.append("+-*/<>=&|".charAt(pick(9)));
            expression(rule, depth + 1);
        }
    }

    private static void planActs(List<long[]> plan, Model model) {
        List<Integer> may = new ArrayList<>();
        for (int act = 0; act < 1024; act++) {
            if (model.why(act) == 0) {
                may.add(act);
            }
        }
        int times = 1 + pick(3);
        for (int i = 0; i < times; i++) {
            int act = may.isEmpty() || pick(4) == 0 ? pick(pick(3) == 0 ? 1400 : 1024) : may.get(pick(may.size()));
            // Acts on boards are rarer among what may be, but lead on.
            for (int tries = 0; tries < 3 && act < 256 && !may.isEmpty(); tries++) {
                act = may.get(pick(may.size()));
            }
            plan.add(new long[] {7, act});
            plan.add(new long[] {8, act});
        }
        for (int w = 0; w < model.walkers.size(); w++) {
            int carried = model.boards.indexOf(model.walkers.get(w).carries);
            if (carried >= 0) {
                plan.add(new long[] {7, 256 + 64 * w + 8 * carried + pick(2)});
            }
        }
        if (pick(4) == 0) {
            plan.add(new long[] {9});
        }
        plan.add(new long[] {7, pick(2) == 0 ? pick(1024) : (pick(4) << 8) + (pick(3) << 6) + (pick(2) << 3) + pick(3)});
    }

    private static void planQuestion(List<long[]> plan, Model model) {
        int[] far = {Integer.MIN_VALUE, Integer.MAX_VALUE, -1, 0, 1, 2, 1 << 30, -(1 << 30), 255, 4096};
        switch (pick(18)) {
            case 17:
                plan.add(new long[] {pick(28), far[pick(10)], far[pick(10)], far[pick(10)]});
                break;
            case 0: plan.add(new long[] {3, pick(11) - 2}); break;
            case 1: plan.add(new long[] {4, pick(11) - 2}); break;
            case 2: plan.add(new long[] {5, pick(5) - 1, pick(6) - 1}); break;
            case 3: plan.add(new long[] {6, pick(4) - 1, pick(6) - 1}); break;
            case 4: plan.add(new long[] {10}); break;
            case 5: plan.add(new long[] {11}); plan.add(new long[] {12, pick(8) - 1}); break;
            case 6: plan.add(new long[] {12, pick(30) - 1}); plan.add(new long[] {12, pick(6)}); break;
            case 7: plan.add(new long[] {13, pick(4) - 1}); break;
            case 8: plan.add(new long[] {14, pick(5) - 2}); plan.add(new long[] {14, -1}); break;
            case 9: plan.add(new long[] {15, -1}); plan.add(new long[] {15, pick(5) - 2}); break;
            case 10: plan.add(new long[] {19, pick(43) - 1, pick(5) - 1}); break;
            case 11:
            case 12:
                int n = pick(22);
                plan.add(new long[] {20, n, pick(13) - 1, pick(n + 3) - 1});
                plan.add(new long[] {21, pick(5) - 1});
                plan.add(new long[] {22, pick(4) - 1, pick(5) - 1});
                break;
            case 13: plan.add(new long[] {23, pick(4) - 1}); break;
            case 14: plan.add(new long[] {24, pick(4) - 1}); break;
            case 15: plan.add(new long[] {25, pick(5) - 1}); break;
            default: plan.add(new long[] {26, pick(8) - 1}); plan.add(new long[] {9}); break;
        }
    }

    /** A walker, a board: plain objects. */
    static final class Walker {
        int weight, place, goal;
        Board carries;
    }

    static final class Board {
        int kind, length, bears, place;
        boolean isGone;
        Walker carrier;

        int span() {
            return kind == 2 || kind == 4 ? length + 1 : length;
        }

        int strength() {
            return kind == 1 ? bears / 2 : kind == 3 || kind == 5 ? 2 * bears : bears;
        }

        boolean covers(int p) {
            return carrier == null && !isGone && p >= place && p < place + span();
        }
    }

    static final class Fault extends RuntimeException {
        private static final long serialVersionUID = 1;
        final int at;

        Fault(int at) {
            super(null, null, false, false);
            this.at = at;
        }
    }

    /** What an image keeps, and what undoing brings back, is a text. */
    static final class Model {
        String text = "";
        String rule = "";
        int last = 7;
        boolean[] island = new boolean[8];
        List<Walker> walkers = new ArrayList<>();
        List<Board> boards = new ArrayList<>();
        List<String> past = new ArrayList<>();
        BigInteger above = BigInteger.ZERO;
        BigInteger below = BigInteger.ONE;
        String[][] images = new String[2][];
        int[] status = new int[3];

        long call(long[] c) {
            int a = c.length > 1 ? (int) c[1] : 0;
            int b = c.length > 2 ? (int) c[2] : 0;
            switch ((int) c[0]) {
                case 0: return type(c[1], b);
                case 1: return clear();
                case 2: return read();
                case 3: return a < 0 || a > last ? bad(-2) : a == 0 || a == last ? 0 : island[a] ? 1 : 2;
                case 4: return a < 0 || a > last ? bad(-2) : isFirm(a) ? 1 : 0;
                case 5: return walker(a, b);
                case 6: return board(a, b);
                case 7: return why(a);
                case 8: return act(a);
                case 9: return undo();
                case 10: return isOver() ? 1 : 0;
                case 11: return row() == null ? -1 : row().size();
                case 12: return a < 0 ? bad(-10) : row() == null || a >= row().size() ? -5 : row().get(a);
                case 13: return a < 0 || a >= boards.size() ? bad(-2) : lost(a);
                case 14: return a < -1 || a >= boards.size() ? bad(-2) : leaps(a);
                case 15: return wrongActs(a);
                case 16: return write(a);
                case 17: int had = rule.length(); rule = ""; return had;
                case 18: return fault();
                case 19: return a < 0 || a > 40 || b < 0 || b > 2 ? bad(-2) : mist(a)[b];
                case 20: return years(a, b, (int) c[3]);
                case 21: return a < 0 || a > 2 ? bad(-2) : a == 0 ? above.signum() : limbs(a == 1 ? above : below).size();
                case 22: return limb(a, b);
                case 23: return image(a);
                case 24: return from(a);
                case 25: return a < 0 || a > 2 ? bad(-1) : status[a];
                case 26: return a < 0 || a > 5 ? bad(-2) : count(a);
                default: return digest();
            }
        }

        int bad(int answer) {
            status[0]++;
            return answer;
        }

        int no() {
            status[1]++;
            return -3;
        }

        int full() {
            status[2]++;
            return -4;
        }

        int type(long v, int n) {
            if (n < 1 || n > 8) {
                return bad(-2);
            }
            if (text.length() + n > 200) {
                return full();
            }
            byte[] bytes = BigInteger.valueOf(v).toByteArray();
            for (int i = n; i >= 1; i--) {
                text += (char) (i > bytes.length ? (v < 0 ? 255 : 0) : bytes[bytes.length - i] & 255);
            }
            return text.length();
        }

        int clear() {
            int had = text.length();
            text = "";
            return had;
        }

        /** Tokens with their places; the last one is the end. */
        List<String> tokens(List<Integer> places) {
            List<String> tokens = new ArrayList<>();
            java.util.regex.Matcher m = java.util.regex.Pattern.compile("[a-z]+|[0-9]+|;|[^ ]", java.util.regex.Pattern.DOTALL)
                .matcher(text);
            while (m.find()) {
                tokens.add(m.group());
                places.add(m.start());
            }
            tokens.add("");
            places.add(text.length());
            return tokens;
        }

        int read() {
            Model next = new Model();
            int items;
            try {
                items = next.build(tokensOf());
            } catch (Fault f) {
                return -10 - f.at;
            }
            if (!next.isWell()) {
                return no();
            }
            last = next.last;
            island = next.island;
            walkers = next.walkers;
            boards = next.boards;
            past.clear();
            return items;
        }

        Object[] tokensOf() {
            List<Integer> places = new ArrayList<>();
            return new Object[] {tokens(places), places};
        }

        @SuppressWarnings("unchecked")
        int build(Object[] told) {
            List<String> tokens = (List<String>) told[0];
            List<Integer> places = (List<Integer>) told[1];
            int items = 0;
            int i = 0;
            while (items == 0 || !tokens.get(i).isEmpty()) {
                String word = tokens.get(i);
                boolean fits = items == 0 ? word.equals("last")
                    : word.equals("island") || word.equals("walker") && walkers.size() < 3 || word.equals("board") && boards.size() < 2;
                if (!fits) {
                    throw new Fault(places.get(i));
                }
                int many = word.equals("board") ? 4 : word.equals("walker") ? 3 : 1;
                int[] n = new int[many];
                for (int j = 0; j < many; j++) {
                    i++;
                    String t = tokens.get(i);
                    if (!t.matches("[0-9]{1,2}")) {
                        throw new Fault(places.get(i));
                    }
                    n[j] = Integer.parseInt(t);
                    if (!isTold(word, j, n)) {
                        throw new Fault(places.get(i));
                    }
                }
                i++;
                if (!tokens.get(i).equals(";")) {
                    throw new Fault(places.get(i));
                }
                i++;
                add(word, n);
                items++;
            }
            return items;
        }

        boolean isTold(String word, int j, int[] n) {
            switch (word) {
                case "last": return n[0] >= 1 && n[0] <= 7;
                case "island": return n[0] >= 1 && n[0] < last;
                case "walker": return j == 0 ? n[0] >= 1 && n[0] <= 9 : j == 1 ? n[1] <= last : n[2] <= 1;
                default: break;
            }
            if (j < 3) {
                return j == 0 ? n[0] <= 5 : n[j] >= 1 && n[j] <= (j == 1 ? 3 : 30);
            }
            Board b = boardOf(n);
            for (int p = b.place; p < b.place + b.span(); p++) {
                if (p > last || boardAt(p) != null) {
                    return false;
                }
            }
            return true;
        }

        Board boardOf(int[] n) {
            Board b = new Board();
            b.kind = n[0];
            b.length = n[1];
            b.bears = n[2];
            b.place = n[3];
            return b;
        }

        void add(String word, int[] n) {
            switch (word) {
                case "last": last = n[0]; break;
                case "island": island[n[0]] = true; break;
                case "walker":
                    Walker w = new Walker();
                    w.weight = n[0];
                    w.place = n[1];
                    w.goal = n[2];
                    walkers.add(w);
                    break;
                default: boards.add(boardOf(n)); break;
            }
        }

        Board boardAt(int p) {
            for (Board b : boards) {
                if (b.covers(p)) {
                    return b;
                }
            }
            return null;
        }

        boolean isFirm(int p) {
            return p >= 0 && p <= last && (p == 0 || p == last || island[p] || boardAt(p) != null);
        }

        int counts(Walker w) {
            return w.carries == null ? w.weight : w.weight + 2;
        }

        int load(Board b) {
            return walkers.stream().filter(w -> b.covers(w.place)).mapToInt(this::counts).sum();
        }

        boolean isWell() {
            return walkers.stream().allMatch(w -> isFirm(w.place)) && boards.stream().allMatch(b -> load(b) <= b.strength());
        }

        int goalOf(Walker w) {
            return w.goal == 1 ? last : 0;
        }

        boolean isOver() {
            return walkers.stream().allMatch(w -> w.place == goalOf(w));
        }

        int walker(int i, int what) {
            if (i < 0 || i >= walkers.size() || what < 0 || what > 3) {
                return bad(-10);
            }
            Walker w = walkers.get(i);
            return new int[] {w.place, goalOf(w), boards.indexOf(w.carries), counts(w)}[what];
        }

        int board(int i, int what) {
            if (i < 0 || i >= boards.size() || what < 0 || what > 3) {
                return bad(-10);
            }
            Board b = boards.get(i);
            return new int[] {b.carrier == null ? b.place : -1, b.span(), b.strength(), load(b)}[what];
        }

        /** Where all are, as a text that put() takes again. */
        String spots() {
            StringBuilder s = new StringBuilder();
            for (Walker w : walkers) {
                s.append(w.place);
            }
            for (Board b : boards) {
                s.append(b.isGone ? "x" : b.carrier == null ? "" + b.place : "" + (char) ('a' + walkers.indexOf(b.carrier)));
            }
            return s.toString();
        }

        void put(String spots) {
            int i = 0;
            for (Walker w : walkers) {
                w.place = spots.charAt(i++) - '0';
                w.carries = null;
            }
            for (Board b : boards) {
                char c = spots.charAt(i++);
                b.isGone = c == 'x';
                b.carrier = null;
                b.place = -1;
                if (c >= '0' && c <= '9') {
                    b.place = c - '0';
                } else if (c != 'x') {
                    b.carrier = walkers.get(c - 'a');
                    b.carrier.carries = b;
                }
            }
        }

        /** Does an act, if it can be but for what is not well; then that is seen behind it. */
        int attempt(int act, boolean leapsToo) {
            if (act < 0 || act >= (leapsToo ? 1280 : 1024)) {
                return 1;
            }
            int kind = act / 256, x = act / 8 % 8, y = act % 8;
            if (act / 64 % 4 >= walkers.size()) {
                return 1;
            }
            Walker w = walkers.get(act / 64 % 4);
            boolean moves = kind == 0 || kind == 4;
            if (moves ? x > 1 || y != 0 : x >= boards.size()) {
                return 1;
            }
            if (kind == 1 && y > 1 || kind == 2 && y != 0 || kind == 3 && y >= walkers.size()) {
                return 1;
            }
            if (moves) {
                int way = x * 2 - 1;
                int to = w.place + way * (kind == 4 ? 2 : 1);
                if (!isFirm(to) || kind == 4 && isFirm(w.place + way)) {
                    return 2;
                }
                w.place = to;
                return isWell() ? 0 : 3;
            }
            Board b = boards.get(x);
            if (kind == 1 ? !lay(w, b, y) : kind == 2 ? !take(w, b) : !hand(w, b, walkers.get(y))) {
                return 2;
            }
            return isWell() ? 0 : 3;
        }

        boolean lay(Walker w, Board b, int way) {
            if (b.carrier != w) {
                return false;
            }
            int least = 99;
            for (int j = 1; j <= b.span(); j++) {
                int p = way == 1 ? w.place + j : w.place - j;
                if (p < 0 || p > last || p == 0 || p == last || island[p] || boardAt(p) != null) {
                    return false;
                }
                least = Math.min(least, p);
            }
            b.carrier = null;
            w.carries = null;
            b.place = least;
            return true;
        }

        boolean take(Walker w, Board b) {
            if (b.carrier != null || b.isGone || w.carries != null || b.kind == 5) {
                return false;
            }
            int[] ends = {b.place, b.place + b.span() - 1};
            boolean can = false;
            for (int e = 0; e < 2; e++) {
                boolean isBeside = Math.abs(w.place - ends[e]) == 1;
                int other = ends[1 - e];
                boolean helped = walkers.stream().anyMatch(o -> o != w && Math.abs(o.place - other) == 1);
                can |= isBeside && (b.kind != 4 || helped);
            }
            if (!can || walkers.stream().anyMatch(o -> b.covers(o.place))) {
                return false;
            }
            b.carrier = w;
            w.carries = b;
            return true;
        }

        boolean hand(Walker w, Board b, Walker o) {
            if (b.carrier != w || o.carries != null || Math.abs(w.place - o.place) > 1) {
                return false;
            }
            b.carrier = o;
            o.carries = b;
            w.carries = null;
            return true;
        }

        int why(int act) {
            String spots = spots();
            int why = attempt(act, false);
            put(spots);
            return why;
        }

        int act(int act) {
            if (why(act) != 0) {
                return no();
            }
            past.add(spots());
            if (past.size() > 8) {
                past.remove(0);
            }
            attempt(act, false);
            return 1;
        }

        int undo() {
            if (past.isEmpty()) {
                return no();
            }
            put(past.remove(past.size() - 1));
            return 1;
        }

        Map<String, List<Integer>> knownRows = new HashMap<>();

        /** Level by level the least row to each; null: none. */
        List<Integer> row() {
            String here = spots();
            String key = here + "/" + last + Arrays.toString(island) + describe();
            if (knownRows.containsKey(key)) {
                return knownRows.get(key);
            }
            Map<String, List<Integer>> level = new TreeMap<>();
            Map<String, Boolean> seen = new HashMap<>();
            level.put(here, new ArrayList<>());
            seen.put(here, true);
            List<Integer> best = null;
            while (!level.isEmpty() && best == null) {
                Map<String, List<Integer>> next = new TreeMap<>();
                for (Map.Entry<String, List<Integer>> e : level.entrySet()) {
                    put(e.getKey());
                    if (isOver() && (best == null || isBefore(e.getValue(), best))) {
                        best = e.getValue();
                    }
                    for (int act : sensible(false)) {
                        put(e.getKey());
                        if (attempt(act, false) == 0 && !seen.containsKey(spots())) {
                            List<Integer> longer = new ArrayList<>(e.getValue());
                            longer.add(act);
                            List<Integer> known = next.get(spots());
                            if (known == null || isBefore(longer, known)) {
                                next.put(spots(), longer);
                            }
                        }
                    }
                }
                for (String s : next.keySet()) {
                    seen.put(s, true);
                }
                level = next;
            }
            put(here);
            knownRows.put(key, best);
            return best;
        }

        String describe() {
            StringBuilder s = new StringBuilder();
            walkers.forEach(w -> s.append(w.weight).append(w.goal).append(','));
            boards.forEach(b -> s.append(b.kind).append('.').append(b.length).append('.').append(b.bears).append(','));
            return s.toString();
        }

        static boolean isBefore(List<Integer> a, List<Integer> b) {
            for (int i = 0; i < a.size() && i < b.size(); i++) {
                if (!a.get(i).equals(b.get(i))) {
                    return a.get(i) < b.get(i);
                }
            }
            return a.size() < b.size();
        }

        /** All acts that may have an effect; leaps alone, if they are asked for. */
        List<Integer> sensible(boolean leaps) {
            List<Integer> acts = new ArrayList<>();
            for (int kind = leaps ? 4 : 0; kind < (leaps ? 5 : 4); kind++) {
                for (int w = 0; w < walkers.size(); w++) {
                    for (int x = 0; x < 2; x++) {
                        for (int y = 0; y < 3; y++) {
                            acts.add(256 * kind + 64 * w + 8 * x + y);
                        }
                    }
                }
            }
            return acts;
        }

        int lost(int b) {
            String here = spots();
            if (load(boards.get(b)) > 0) {
                return -1;
            }
            int i = walkers.size() + b;
            put(here.substring(0, i) + "x" + here.substring(i + 1));
            List<Integer> row = row();
            put(here);
            return row == null ? -1 : row.size();
        }

        /** Relaxes the number of leaps to each until nothing changes. */
        int leaps(int b) {
            String here = spots();
            if (b >= 0 && load(boards.get(b)) > 0) {
                return -1;
            }
            int i = walkers.size() + b;
            String start = b < 0 ? here : here.substring(0, i) + "x" + here.substring(i + 1);
            Map<String, Integer> fewest = new HashMap<>();
            fewest.put(start, 0);
            List<String> open = new ArrayList<>();
            open.add(start);
            int best = 99;
            while (!open.isEmpty()) {
                String s = open.remove(open.size() - 1);
                int n = fewest.get(s);
                put(s);
                if (isOver()) {
                    best = Math.min(best, n);
                }
                for (int leap = 0; leap < 2; leap++) {
                    for (int act : sensible(leap == 1)) {
                        put(s);
                        if (n + leap <= 3 && attempt(act, true) == 0 && fewest.getOrDefault(spots(), 9) > n + leap) {
                            fewest.put(spots(), n + leap);
                            open.add(spots());
                        }
                    }
                }
            }
            put(here);
            return best == 99 ? -1 : best;
        }

        int wrongActs(int i) {
            if (i < -1) {
                return bad(-10);
            }
            List<Integer> found = new ArrayList<>();
            for (int act = 0; act < 1024; act++) {
                if (why(act) == 3) {
                    found.add(act);
                }
            }
            return i == -1 ? found.size() : i < found.size() ? found.get(i) : -5;
        }

        int write(int c) {
            if (c < 0 || c > 127) {
                return bad(-2);
            }
            if (rule.length() == 40) {
                return full();
            }
            rule += (char) c;
            return rule.length();
        }

        /** Whether a text is a whole value: by what may follow what, with no tree. */
        static boolean canGoOn(String prefix) {
            boolean wantsUnit = true;
            List<Boolean> compared = new ArrayList<>();
            compared.add(false);
            boolean inDigits = false;
            for (char c : prefix.toCharArray()) {
                int top = compared.size() - 1;
                boolean isDigit = c >= '0' && c <= '9';
                if (c == ' ') {
                    inDigits = false;
                    continue;
                }
                if (wantsUnit) {
                    if (c == '(') {
                        compared.add(false);
                    } else if (isDigit || "ancbkt".indexOf(c) >= 0) {
                        wantsUnit = false;
                    } else if (c != '!' && c != '-') {
                        return false;
                    }
                } else if (isDigit) {
                    if (!inDigits) {
                        return false;
                    }
                } else if (c == ')') {
                    if (top == 0) {
                        return false;
                    }
                    compared.remove(top);
                } else if ("<>=".indexOf(c) >= 0) {
                    if (compared.get(top)) {
                        return false;
                    }
                    compared.set(top, true);
                    wantsUnit = true;
                } else if ("+-*/|&".indexOf(c) >= 0) {
                    if (c == '|' || c == '&') {
                        compared.set(top, false);
                    }
                    wantsUnit = true;
                } else {
                    return false;
                }
                inDigits = isDigit;
            }
            return true;
        }

        int fault() {
            int open = 0;
            int run = 0;
            for (int i = 0; i < rule.length(); i++) {
                char c = rule.charAt(i);
                if (!canGoOn(rule.substring(0, i + 1))) {
                    return 10 * i + 1;
                }
                run = c >= '0' && c <= '9' ? run + 1 : 0;
                if (run == 7) {
                    return 10 * (i - 6) + 2;
                }
                open += c == '(' ? 1 : c == ')' ? -1 : 0;
                if (open == 9) {
                    return 10 * i + 3;
                }
            }
            // It is whole, if something that follows a unit may follow it, and nothing is open.
            boolean isWhole = open == 0 && canGoOn(rule + "+") && !canGoOn(rule + " !");
            return isWhole ? -1 : 10 * rule.length() + 1;
        }

        /** Works a rule by splitting it at its last weakest sign. */
        static long work(String told, Map<Character, Long> seen) {
            String s = told.replace(" ", "");
            for (String signs : new String[] {"|", "&", "<>=", "+-", "*/"}) {
                int depth = 0;
                for (int i = s.length() - 1; i > 0; i--) {
                    char c = s.charAt(i);
                    depth += c == ')' ? 1 : c == '(' ? -1 : 0;
                    boolean isBinary = "+-*/<>=&|!(".indexOf(s.charAt(i - 1)) < 0;
                    if (depth == 0 && isBinary && signs.indexOf(c) >= 0) {
                        return join(c, work(s.substring(0, i), seen), work(s.substring(i + 1), seen));
                    }
                }
            }
            char c = s.charAt(0);
            if (c == '!') {
                return work(s.substring(1), seen) == 0 ? 1 : 0;
            }
            if (c == '-') {
                return -work(s.substring(1), seen);
            }
            if (c == '(') {
                return work(s.substring(1, s.length() - 1), seen);
            }
            return seen.containsKey(c) ? seen.get(c) : Long.parseLong(s);
        }

        static long join(char c, long a, long b) {
            switch (c) {
                case '|': return a != 0 || b != 0 ? 1 : 0;
                case '&': return a != 0 && b != 0 ? 1 : 0;
                case '<': return a < b ? 1 : 0;
                case '>': return a > b ? 1 : 0;
                case '=': return a == b ? 1 : 0;
                case '+': return a + b;
                case '-': return a - b;
                case '*': return a * b;
                default: return b == 0 ? 0 : a / b;
            }
        }

        int[] mist(int rounds) {
            String here = spots();
            boolean stay = fault() >= 0;
            int[] told = {-1, 0, 0};
            while (told[2] < rounds && told[0] < 0) {
                for (int i = 0; i < walkers.size() && !stay && told[0] < 0; i++) {
                    if (isLosing(i, told[2])) {
                        told[0] = i;
                    }
                }
                told[2]++;
            }
            told[1] = (int) walkers.stream().filter(w -> w.place == goalOf(w)).count();
            put(here);
            return told;
        }

        boolean isLosing(int i, long round) {
            Walker w = walkers.get(i);
            if (w.place == goalOf(w)) {
                return false;
            }
            int way = w.goal == 1 ? 1 : -1;
            Board behind = boardAt(w.place - way);
            int take = behind == null ? -1 : 512 + 64 * i + 8 * boards.indexOf(behind);
            Map<Character, Long> seen = new HashMap<>();
            seen.put('a', isFirm(w.place + way) ? 1L : 0);
            seen.put('n', walkers.stream().filter(o -> o.place == w.place + way).count());
            seen.put('c', w.carries == null ? 0L : 1);
            seen.put('b', take >= 0 && why(take) == 0 ? 1L : 0);
            seen.put('k', (long) i);
            seen.put('t', round);
            int choice = (int) ((work(rule, seen) % 4 + 4) % 4);
            int[] acts = {-1, 64 * i + 8 * w.goal, w.carries == null ? -1 : 256 + 64 * i + 8 * boards.indexOf(w.carries) + w.goal, take};
            int act = acts[choice];
            if (act < 0) {
                return false;
            }
            int why = why(act);
            if (why == 0) {
                attempt(act, false);
            }
            return why == 3 || why == 2 && choice == 1;
        }

        int years(int n, int w, int k) {
            if (n < 1 || n > 20 || w < 0 || w > 10 || k < 0 || k > n) {
                return bad(-2);
            }
            boolean loses = mist(40)[0] >= 0;
            // Year by year: in how many of 10 to the n ways just so many are lost.
            BigInteger[] ways = new BigInteger[n + 2];
            Arrays.fill(ways, BigInteger.ZERO);
            ways[0] = BigInteger.ONE;
            BigInteger wet = BigInteger.valueOf(loses ? w : 0);
            for (int year = 0; year < n; year++) {
                for (int j = n; j >= 0; j--) {
                    BigInteger fromLess = j == 0 ? BigInteger.ZERO : ways[j - 1].multiply(wet);
                    ways[j] = ways[j].multiply(BigInteger.TEN.subtract(wet)).add(fromLess);
                }
            }
            above = BigInteger.ZERO;
            for (int j = k; j <= n; j++) {
                above = above.add(ways[j]);
            }
            below = BigInteger.TEN.pow(n);
            BigInteger shared = above.gcd(below);
            above = above.divide(shared);
            below = below.divide(shared);
            return 1;
        }

        static List<Long> limbs(BigInteger number) {
            List<Long> limbs = new ArrayList<>();
            for (BigInteger n = number; n.signum() > 0; n = n.shiftRight(30)) {
                limbs.add(n.longValue() % 1073741824L & 1073741823L);
            }
            return limbs;
        }

        int limb(int which, int i) {
            if (which < 0 || which > 1 || i < 0) {
                return bad(-2);
            }
            List<Long> limbs = limbs(which == 0 ? above : below);
            return i < limbs.size() ? limbs.get(i).intValue() : -1;
        }

        String bogText() {
            StringBuilder s = new StringBuilder("last " + last + ";");
            for (int p = 1; p < last; p++) {
                s.append(island[p] ? "island " + p + ";" : "");
            }
            return s.toString();
        }

        int image(int i) {
            if (i < 0 || i > 1) {
                return bad(-2);
            }
            StringBuilder who = new StringBuilder();
            walkers.forEach(w -> who.append(w.weight).append(w.goal));
            StringBuilder what = new StringBuilder();
            boards.forEach(b -> what.append((char) b.kind).append((char) b.length).append((char) b.bears));
            images[i] = new String[] {bogText(), who.toString(), what.toString(), spots(), rule, String.join(" ", past)};
            return 1;
        }

        int from(int i) {
            if (i < 0 || i > 1) {
                return bad(-2);
            }
            if (images[i] == null) {
                return no();
            }
            String[] kept = images[i];
            Model m = new Model();
            m.text = kept[0];
            m.build(m.tokensOf());
            last = m.last;
            island = m.island;
            walkers = new ArrayList<>();
            for (int j = 0; j < kept[1].length(); j += 2) {
                Walker w = new Walker();
                w.weight = kept[1].charAt(j) - '0';
                w.goal = kept[1].charAt(j + 1) - '0';
                walkers.add(w);
            }
            boards = new ArrayList<>();
            for (int j = 0; j < kept[2].length(); j += 3) {
                boards.add(boardOf(new int[] {kept[2].charAt(j), kept[2].charAt(j + 1), kept[2].charAt(j + 2), 0}));
            }
            put(kept[3]);
            rule = kept[4];
            past = new ArrayList<>(kept[5].isEmpty() ? List.of() : Arrays.asList(kept[5].split(" ")));
            return 1;
        }

        int count(int what) {
            return new int[] {walkers.size(), boards.size(), text.length(), rule.length(), past.size(), last}[what];
        }

        long digest() {
            List<Long> v = new ArrayList<>();
            for (int i = 0; i < 6; i++) {
                v.add((long) count(i));
            }
            for (int p = 0; p <= last; p++) {
                v.add(p == 0 || p == last ? 0L : island[p] ? 1L : 2L);
            }
            walkers.forEach(w -> v.addAll(List.of((long) w.weight, (long) w.place, (long) w.goal)));
            for (Board b : boards) {
                int where = b.carrier == null ? b.place : 8 + walkers.indexOf(b.carrier);
                v.addAll(List.of((long) b.kind, (long) b.length, (long) b.bears, (long) where));
            }
            rule.chars().forEach(c -> v.add((long) c));
            v.add((long) above.signum());
            v.add((long) limbs(above).size());
            v.add((long) limbs(below).size());
            v.addAll(limbs(above));
            v.addAll(limbs(below));
            return v.stream().reduce(653L, (h, x) -> 31 * h + x);
        }
    }
}
