/** Boards over a bog: walkers, boards, acts, the fewest of them, a rule for the mist, and wet years. */
public final class BogBoards {
    public static final int NONE = -1, BAD = -2, NO = -3, FULL = -4;

    private static final int BAD_DETAIL = -10, NOT_SO_MANY = -5, FAULT_BASE = -10;
    private static final int YEAR_ROUNDS = 40, MOST_YEARS = 20, TENTHS = 10;

    private final Bog bog = new Bog();
    private final Bog draft = new Bog();
    private final Text text = new Text();
    private final TextReader reader = new TextReader(text);
    private final Rule rule = new Rule();
    private final Past past = new Past();
    private final Search search = new Search();
    private final Mist fog = new Mist();
    private final Fraction fraction = new Fraction();
    private final Image firstImage = new Image();
    private final Image secondImage = new Image();
    private int badCalls, noCalls, fullCalls;

    public BogBoards() {
    }

    public int type(long v, int n) {
        if (n < 1 || n > 8) {
            return refused(BAD, BAD);
        }
        if (text.size + n > Text.ROOM) {
            return refused(FULL, FULL);
        }
        for (int i = n - 1; i >= 0; i--) {
            text.append((int) (v >>> (8 * i)) & 255);
        }
        return text.size;
    }

    public int clear() {
        int had = text.size;
        text.size = 0;
        return had;
    }

    public int read() {
        int items = reader.readInto(draft);
        if (items < 0) {
            return FAULT_BASE - reader.broken;
        }
        if (!draft.isWell(draft.now)) {
            return refused(NO, NO);
        }
        bog.copyOf(draft);
        past.size = 0;
        search.forget();
        return items;
    }

    public int place(int p) {
        if (!bog.hasPlace(p)) {
            return refused(BAD, BAD);
        }
        return bog.groundAt(p);
    }

    public int firm(int p) {
        if (!bog.hasPlace(p)) {
            return refused(BAD, BAD);
        }
        return bog.isFirm(bog.now, p) ? 1 : 0;
    }

    public int walker(int w, int what) {
        if (w < 0 || w >= bog.walkers || what < 0 || what > 3) {
            return refused(BAD, BAD_DETAIL);
        }
        switch (what) {
            case 0: return bog.walkerAt(bog.now, w);
            case 1: return bog.goalPlace(w);
            case 2: return bog.carriedBy(bog.now, w);
            default: return bog.counts(w, bog.ladenMask(bog.now));
        }
    }

    public int board(int b, int what) {
        if (!bog.hasBoard(b) || what < 0 || what > 3) {
            return refused(BAD, BAD_DETAIL);
        }
        switch (what) {
            case 0: return bog.isLying(bog.now, b) ? bog.boardAt(bog.now, b) : NONE;
            case 1: return bog.spans[b];
            case 2: return bog.strengths[b];
            default: return bog.loadOn(bog.now, b);
        }
    }

    public int why(int act) {
        int next = outcomeNow(act);
        return next < 0 ? -next : 0;
    }

    public int act(int act) {
        int next = outcomeNow(act);
        if (next < 0) {
            return refused(NO, NO);
        }
        past.remember(bog.now);
        moveTo(next);
        return 1;
    }

    public int undo() {
        if (past.size == 0) {
            return refused(NO, NO);
        }
        moveTo(past.takeLatest());
        return 1;
    }

    public int over() {
        return bog.isOver(bog.now) ? 1 : 0;
    }

    public int fewest() {
        return search.rowLength(bog);
    }

    public int row(int i) {
        if (i < 0) {
            return refused(BAD, BAD_DETAIL);
        }
        int length = search.rowLength(bog);
        return i < length ? search.rowAct(i) : NOT_SO_MANY;
    }

    public int lost(int b) {
        if (!bog.hasBoard(b)) {
            return refused(BAD, BAD);
        }
        return search.lengthWithout(bog, b);
    }

    public int leaps(int b) {
        if (b != NONE && !bog.hasBoard(b)) {
            return refused(BAD, BAD);
        }
        return search.leapsWithout(bog, b);
    }

    public int wrong(int i) {
        if (i < NONE) {
            return refused(BAD, BAD_DETAIL);
        }
        int found = 0;
        for (int act = 0; act < Bog.PLAIN_ACTS; act++) {
            if (bog.outcome(bog.now, act) == Bog.NOT_WELL) {
                if (found == i) {
                    return act;
                }
                found++;
            }
        }
        return i == NONE ? found : NOT_SO_MANY;
    }

    public int write(int character) {
        if (character < 0 || character > 127) {
            return refused(BAD, BAD);
        }
        if (rule.size >= Rule.ROOM) {
            return refused(FULL, FULL);
        }
        rule.append(character);
        return rule.size;
    }

    public int erase() {
        int had = rule.size;
        rule.empty();
        return had;
    }

    public int fault() {
        return rule.faultCode();
    }

    public int mist(int n, int what) {
        if (n < 0 || n > YEAR_ROUNDS || what < 0 || what > 2) {
            return refused(BAD, BAD);
        }
        fog.run(bog, rule, n);
        switch (what) {
            case 0: return fog.loser;
            case 1: return bog.arrived(fog.code);
            default: return fog.gone;
        }
    }

    public int years(int n, int w, int k) {
        if (n < 1 || n > MOST_YEARS || w < 0 || w > TENTHS || k < 0 || k > n) {
            return refused(BAD, BAD);
        }
        fog.run(bog, rule, YEAR_ROUNDS);
        // A rule that loses nobody loses no year, just as if every year were dry.
        fraction.chanceOfAtLeast(n, fog.loser == NONE ? 0 : w, k);
        return 1;
    }

    public int sign(int what) {
        switch (what) {
            case 0: return fraction.aboveSize == 0 ? 0 : 1;
            case 1: return fraction.aboveSize;
            case 2: return fraction.belowSize;
            default: return refused(BAD, BAD);
        }
    }

    public int limb(int which, int i) {
        if (which < 0 || which > 1 || i < 0) {
            return refused(BAD, BAD);
        }
        return which == 0 ? fraction.aboveLimb(i) : fraction.belowLimb(i);
    }

    public int image(int i) {
        if (i < 0 || i > 1) {
            return refused(BAD, BAD);
        }
        Image image = imageOf(i);
        image.bog.copyOf(bog);
        image.rule.copyOf(rule);
        image.past.copyOf(past);
        image.isKept = true;
        return 1;
    }

    public int from(int i) {
        if (i < 0 || i > 1) {
            return refused(BAD, BAD);
        }
        Image image = imageOf(i);
        if (!image.isKept) {
            return refused(NO, NO);
        }
        bog.copyOf(image.bog);
        rule.copyOf(image.rule);
        past.copyOf(image.past);
        search.forget();
        return 1;
    }

    public int status(int what) {
        switch (what) {
            case 0: return badCalls;
            case 1: return noCalls;
            case 2: return fullCalls;
            default: return refused(BAD, NONE);
        }
    }

    public int count(int what) {
        if (what < 0 || what > 5) {
            return refused(BAD, BAD);
        }
        return amount(what);
    }

    public long digest() {
        long h = 653;
        for (int what = 0; what <= 5; what++) {
            h = 31 * h + amount(what);
        }
        h = bog.digestOn(h);
        h = rule.digestOn(h);
        return fraction.digestOn(h);
    }

    private int amount(int what) {
        switch (what) {
            case 0: return bog.walkers;
            case 1: return bog.boards;
            case 2: return text.size;
            case 3: return rule.size;
            case 4: return past.size;
            default: return bog.last;
        }
    }

    private int refused(int reason, int answer) {
        if (reason == BAD) {
            badCalls++;
        } else if (reason == NO) {
            noCalls++;
        } else {
            fullCalls++;
        }
        return answer;
    }

    private int outcomeNow(int act) {
        // A leap is told of only in the search for leaps: as an act it is none.
        return act >= Bog.PLAIN_ACTS ? Bog.NO_SUCH : bog.outcome(bog.now, act);
    }

    private void moveTo(int code) {
        bog.now = code;
        search.forget();
    }

    private Image imageOf(int i) {
        return i == 0 ? firstImage : secondImage;
    }

    /**
     * The bog. Where walkers and boards are is one number, a code: three bits for the place of each walker,
     * then four for each board: the least place it lies on, 8 and its carrier, or nowhere.
     */
    static final class Bog {
        static final int WALK = 0, LAY = 1, TAKE = 2, HAND = 3, LEAP = 4;
        static final int PLAIN_ACTS = 1024, ALL_ACTS = 1280;
        static final int NO_SUCH = -1, CAN_NOT = -2, NOT_WELL = -3;
        static final int MOST_WALKERS = 3, MOST_BOARDS = 2, MOST_LAST = 7;
        static final int CARRIED = 8, NOWHERE = 15, CODES = 1 << 17;
        static final int MOST_KIND = 5;
        private static final int ROPE = 4, FROZEN = 5, BOARD_WEIGHT = 2;
        private static final int[] LONGER = {0, 0, 1, 0, 1, 0};
        // In halves, so that half of what is told is cut by one division.
        private static final int[] STRONGER = {2, 1, 2, 4, 2, 4};

        int last = MOST_LAST;
        int islands;
        int walkers;
        int boards;
        int now;
        final int[] weights = new int[MOST_WALKERS];
        final int[] goals = new int[MOST_WALKERS];
        final int[] kinds = new int[MOST_BOARDS];
        final int[] toldLengths = new int[MOST_BOARDS];
        final int[] toldBears = new int[MOST_BOARDS];
        final int[] spans = new int[MOST_BOARDS];
        final int[] strengths = new int[MOST_BOARDS];

        void restart(int newLast) {
            last = newLast;
            islands = 0;
            walkers = 0;
            boards = 0;
            now = 0;
        }

        void copyOf(Bog other) {
            last = other.last;
            islands = other.islands;
            walkers = other.walkers;
            boards = other.boards;
            now = other.now;
            System.arraycopy(other.weights, 0, weights, 0, MOST_WALKERS);
            System.arraycopy(other.goals, 0, goals, 0, MOST_WALKERS);
            System.arraycopy(other.kinds, 0, kinds, 0, MOST_BOARDS);
            System.arraycopy(other.toldLengths, 0, toldLengths, 0, MOST_BOARDS);
            System.arraycopy(other.toldBears, 0, toldBears, 0, MOST_BOARDS);
            System.arraycopy(other.spans, 0, spans, 0, MOST_BOARDS);
            System.arraycopy(other.strengths, 0, strengths, 0, MOST_BOARDS);
        }

        void addWalker(int weight, int place, int goal) {
            if (walkers < MOST_WALKERS) {
                weights[walkers] = weight;
                goals[walkers] = goal;
                now = withWalker(now, walkers, place);
                walkers++;
            }
        }

        /** Says whether it can lie there; only then it is added. */
        boolean addBoard(int kind, int length, int bears, int place) {
            if (boards >= MOST_BOARDS || kind < 0 || kind > MOST_KIND) {
                return false;
            }
            int span = length + LONGER[kind];
            if (place + span - 1 > last || (maskOf(span, place) & boardMask(now)) != 0) {
                return false;
            }
            kinds[boards] = kind;
            toldLengths[boards] = length;
            toldBears[boards] = bears;
            spans[boards] = span;
            strengths[boards] = bears * STRONGER[kind] / 2;
            now = withBoard(now, boards, place);
            boards++;
            return true;
        }

        boolean hasPlace(int p) {
            return p >= 0 && p <= last;
        }

        boolean hasBoard(int b) {
            return b >= 0 && b < boards;
        }

        int groundAt(int p) {
            if (p == 0 || p == last) {
                return 0;
            }
            return (islands >> p & 1) == 1 ? 1 : 2;
        }

        int walkerAt(int code, int w) {
            return code >> 3 * w & 7;
        }

        int boardAt(int code, int b) {
            return code >> 9 + 4 * b & 15;
        }

        boolean isLying(int code, int b) {
            return boardAt(code, b) < CARRIED;
        }

        int withWalker(int code, int w, int place) {
            return code & ~(7 << 3 * w) | place << 3 * w;
        }

        int withBoard(int code, int b, int where) {
            return code & ~(15 << 9 + 4 * b) | where << 9 + 4 * b;
        }

        int goalPlace(int w) {
            return goals[w] == 0 ? 0 : last;
        }

        boolean isAtGoal(int code, int w) {
            return walkerAt(code, w) == goalPlace(w);
        }

        int arrived(int code) {
            int many = 0;
            for (int w = 0; w < walkers; w++) {
                if (isAtGoal(code, w)) {
                    many++;
                }
            }
            return many;
        }

        boolean isOver(int code) {
            return arrived(code) == walkers;
        }

        int carriedBy(int code, int w) {
            for (int b = 0; b < boards; b++) {
                if (boardAt(code, b) == CARRIED + w) {
                    return b;
                }
            }
            return NONE;
        }

        int ladenMask(int code) {
            int mask = 0;
            for (int b = 0; b < boards; b++) {
                int where = boardAt(code, b);
                if (where >= CARRIED && where != NOWHERE) {
                    mask |= 1 << where - CARRIED;
                }
            }
            return mask;
        }

        int counts(int w, int laden) {
            return weights[w] + ((laden >> w & 1) == 1 ? BOARD_WEIGHT : 0);
        }

        private int maskOf(int span, int place) {
            return (1 << span) - 1 << place;
        }

        private int coverOf(int code, int b) {
            int where = boardAt(code, b);
            return where < CARRIED ? maskOf(spans[b], where) : 0;
        }

        int boardMask(int code) {
            int mask = 0;
            for (int b = 0; b < boards; b++) {
                mask |= coverOf(code, b);
            }
            return mask;
        }

        private boolean isIn(int mask, int p) {
            return hasPlace(p) && (mask >> p & 1) == 1;
        }

        private int groundMask() {
            return 1 | 1 << last | islands;
        }

        private int standMask(int code) {
            int mask = 0;
            for (int w = 0; w < walkers; w++) {
                mask |= 1 << walkerAt(code, w);
            }
            return mask;
        }

        boolean isFirm(int code, int p) {
            return isIn(groundMask() | boardMask(code), p);
        }

        int boardOver(int code, int p) {
            for (int b = 0; b < boards; b++) {
                if (isIn(coverOf(code, b), p)) {
                    return b;
                }
            }
            return NONE;
        }

        int standingAt(int code, int p) {
            int many = 0;
            for (int w = 0; w < walkers; w++) {
                if (walkerAt(code, w) == p) {
                    many++;
                }
            }
            return many;
        }

        int loadOn(int code, int b) {
            return weightOver(code, coverOf(code, b), ladenMask(code));
        }

        private int weightOver(int code, int cover, int laden) {
            int weight = 0;
            for (int w = 0; w < walkers; w++) {
                if ((cover >> walkerAt(code, w) & 1) == 1) {
                    weight += counts(w, laden);
                }
            }
            return weight;
        }

        boolean isWell(int code) {
            int firm = groundMask();
            int laden = ladenMask(code);
            for (int b = 0; b < boards; b++) {
                int cover = coverOf(code, b);
                if (weightOver(code, cover, laden) > strengths[b]) {
                    return false;
                }
                firm |= cover;
            }
            return (standMask(code) & ~firm) == 0;
        }

        boolean isSuch(int act) {
            if (act < 0 || act >= ALL_ACTS || (act >> 6 & 3) >= walkers) {
                return false;
            }
            int kind = act >> 8;
            int x = act >> 3 & 7;
            int y = act & 7;
            if (kind == WALK || kind == LEAP) {
                return x < 2 && y == 0;
            }
            if (x >= boards) {
                return false;
            }
            if (kind == LAY) {
                return y < 2;
            }
            return kind == TAKE ? y == 0 : y < walkers;
        }

        /** The code behind an act; below 0: why it can not be. */
        int outcome(int code, int act) {
            if (!isSuch(act)) {
                return NO_SUCH;
            }
            int kind = act >> 8;
            int w = act >> 6 & 3;
            int x = act >> 3 & 7;
            int y = act & 7;
            boolean isByCarrier = kind == LAY || kind == HAND;
            if (isByCarrier && boardAt(code, x) != CARRIED + w) {
                return CAN_NOT;
            }
            int firm = groundMask() | boardMask(code);
            int next;
            switch (kind) {
                case WALK: next = walked(code, w, x, firm); break;
                case LAY: next = laid(code, w, x, y, firm); break;
                case TAKE: next = taken(code, w, x); break;
                case HAND: next = handed(code, w, x, y); break;
                default: next = leapt(code, w, x, firm); break;
            }
            if (next < 0) {
                return CAN_NOT;
            }
            return isWell(next) ? next : NOT_WELL;
        }

        private int walked(int code, int w, int way, int firm) {
            int to = walkerAt(code, w) + (way == 0 ? -1 : 1);
            return isIn(firm, to) ? withWalker(code, w, to) : CAN_NOT;
        }

        private int leapt(int code, int w, int way, int firm) {
            int step = way == 0 ? -1 : 1;
            int between = walkerAt(code, w) + step;
            int to = between + step;
            return !isIn(firm, between) && isIn(firm, to) ? withWalker(code, w, to) : CAN_NOT;
        }

        private int laid(int code, int w, int b, int way, int firm) {
            int at = walkerAt(code, w);
            int least = way == 0 ? at - spans[b] : at + 1;
            if (least < 0 || least + spans[b] - 1 > last) {
                return CAN_NOT;
            }
            boolean allWet = (maskOf(spans[b], least) & firm) == 0;
            return allWet ? withBoard(code, b, least) : CAN_NOT;
        }

        private int taken(int code, int w, int b) {
            if (!isLying(code, b) || kinds[b] == FROZEN) {
                return CAN_NOT;
            }
            int before = boardAt(code, b) - 1;
            int behind = before + spans[b] + 1;
            int at = walkerAt(code, w);
            if (at != before && at != behind) {
                return CAN_NOT;
            }
            // A rope's helper is another walker by himself: he stands at the other end.
            if (kinds[b] == ROPE && standingAt(code, at == before ? behind : before) == 0) {
                return CAN_NOT;
            }
            boolean isStoodOn = (coverOf(code, b) & standMask(code)) != 0;
            return isStoodOn || carriedBy(code, w) != NONE ? CAN_NOT : withBoard(code, b, CARRIED + w);
        }

        private int handed(int code, int w, int b, int other) {
            int apart = walkerAt(code, w) - walkerAt(code, other);
            boolean isNear = apart >= -1 && apart <= 1;
            return isNear && carriedBy(code, other) == NONE ? withBoard(code, b, CARRIED + other) : CAN_NOT;
        }

        long digestOn(long start) {
            long h = start;
            for (int p = 0; p <= last; p++) {
                h = 31 * h + groundAt(p);
            }
            for (int w = 0; w < walkers; w++) {
                h = 31 * h + weights[w];
                h = 31 * h + walkerAt(now, w);
                h = 31 * h + goals[w];
            }
            for (int b = 0; b < boards; b++) {
                h = 31 * h + kinds[b];
                h = 31 * h + toldLengths[b];
                h = 31 * h + toldBears[b];
                h = 31 * h + boardAt(now, b);
            }
            return h;
        }
    }

    /** The bytes that are typed. */
    static final class Text {
        static final int ROOM = 200;
        final int[] bytes = new int[ROOM];
        int size;

        void append(int value) {
            if (size < ROOM) {
                bytes[size] = value;
                size++;
            }
        }

        int byteAt(int i) {
            return i >= 0 && i < size && i < ROOM ? bytes[i] : NONE;
        }
    }

    /** Reads a bog from a text, token by token. */
    static final class TextReader {
        private static final int END = 0, WORD = 1, NUMBER = 2, STOP = 3, OTHER = 4;
        private final Text source;
        private int at;
        private int token;
        private int tokenStart;
        private int value;
        int broken;

        TextReader(Text source) {
            this.source = source;
        }

        /** How many items; below 0: it is broken at a place. */
        int readInto(Bog bog) {
            at = 0;
            broken = NONE;
            bog.restart(Bog.MOST_LAST);
            // An item takes at least one byte, so there are never more items than bytes.
            for (int items = 0; items <= Text.ROOM; items++) {
                nextToken();
                if (token == END && items > 0) {
                    return items;
                }
                readItem(bog, items == 0);
                expectStop();
                if (broken != NONE) {
                    return NONE;
                }
            }
            return NONE;
        }

        private void readItem(Bog bog, boolean isFirst) {
            if (isFirst != isWord("last")) {
                breakHere();
            } else if (isFirst) {
                bog.restart(number(1, Bog.MOST_LAST));
            } else if (isWord("island")) {
                bog.islands |= 1 << number(1, bog.last - 1);
            } else if (isWord("walker") && bog.walkers < Bog.MOST_WALKERS) {
                int weight = number(1, 9);
                int place = number(0, bog.last);
                bog.addWalker(weight, place, number(0, 1));
            } else if (isWord("board") && bog.boards < Bog.MOST_BOARDS) {
                readBoard(bog);
            } else {
                breakHere();
            }
        }

        private void readBoard(Bog bog) {
            int kind = number(0, Bog.MOST_KIND);
            int length = number(1, 3);
            int bears = number(1, 30);
            int place = number(0, bog.last);
            if (broken == NONE && !bog.addBoard(kind, length, bears, place)) {
                breakHere();
            }
        }

        /** A number within its bounds; the least one, if the text is broken. */
        private int number(int least, int most) {
            if (broken != NONE) {
                return least;
            }
            nextToken();
            if (token != NUMBER || value < least || value > most) {
                breakHere();
                return least;
            }
            return value;
        }

        private void expectStop() {
            if (broken == NONE) {
                nextToken();
                if (token != STOP) {
                    breakHere();
                }
            }
        }

        private void breakHere() {
            if (broken == NONE) {
                broken = tokenStart;
            }
        }

        private void nextToken() {
            while (at < source.size && source.byteAt(at) == ' ') {
                at++;
            }
            tokenStart = at;
            int first = source.byteAt(at);
            if (at >= source.size) {
                token = END;
            } else if (isLetter(first)) {
                token = WORD;
                while (at < source.size && isLetter(source.byteAt(at))) {
                    at++;
                }
            } else if (isFigure(first)) {
                token = NUMBER;
                readFigures();
            } else {
                token = first == ';' ? STOP : OTHER;
                at++;
            }
        }

        private void readFigures() {
            value = 0;
            while (at < source.size && isFigure(source.byteAt(at))) {
                // Three figures are no number: no bound lets one below 0 pass.
                value = at - tokenStart < 2 ? 10 * value + source.byteAt(at) - '0' : -1;
                at++;
            }
        }

        private boolean isWord(String word) {
            if (token != WORD || at - tokenStart != word.length()) {
                return false;
            }
            for (int i = 0; i < word.length(); i++) {
                if (source.byteAt(tokenStart + i) != word.charAt(i)) {
                    return false;
                }
            }
            return true;
        }

        private boolean isLetter(int c) {
            return c >= 'a' && c <= 'z';
        }

        private boolean isFigure(int c) {
            return c >= '0' && c <= '9';
        }
    }

    /** The rule: its characters, and what they come to: numbers and signs, each sign behind what it works on. */
    static final class Rule {
        static final int ROOM = 40;
        private static final int MOST_OPEN = 8, MOST_DIGITS = 6;
        private static final int CAN_NOT_STAND = 1, TOO_MANY_DIGITS = 2, TOO_MANY_OPEN = 3;
        private static final int NEGATE = '~';

        final int[] characters = new int[ROOM];
        int size;
        private final int[] steps = new int[ROOM];
        private int stepCount;
        private final long[] stack = new long[ROOM];
        private int stacked;
        private boolean isWorkedOut;
        private int at;
        private int broken;

        void append(int character) {
            if (size < ROOM) {
                characters[size] = character;
                size++;
                isWorkedOut = false;
            }
        }

        void empty() {
            size = 0;
            isWorkedOut = false;
        }

        void copyOf(Rule other) {
            System.arraycopy(other.characters, 0, characters, 0, ROOM);
            size = other.size;
            isWorkedOut = false;
        }

        int faultCode() {
            if (!isWorkedOut) {
                at = 0;
                stepCount = 0;
                broken = NONE;
                parseValue(0);
                if (next() != NONE) {
                    breakHere(CAN_NOT_STAND);
                }
                isWorkedOut = true;
            }
            return broken;
        }

        private void parseValue(int open) {
            parseBoth(open);
            for (int i = 0; i < ROOM && takes('|'); i++) {
                parseBoth(open);
                emit(-'|');
            }
        }

        private void parseBoth(int open) {
            parseHeld(open);
            for (int i = 0; i < ROOM && takes('&'); i++) {
                parseHeld(open);
                emit(-'&');
            }
        }

        private void parseHeld(int open) {
            parseSum(open);
            int sign = next();
            if (sign == '<' || sign == '>' || sign == '=') {
                takes(sign);
                parseSum(open);
                emit(-sign);
            }
        }

        private void parseSum(int open) {
            parseTerm(open);
            int sign = next();
            for (int i = 0; i < ROOM && (sign == '+' || sign == '-') && takes(sign); i++) {
                parseTerm(open);
                emit(-sign);
                sign = next();
            }
        }

        private void parseTerm(int open) {
            parseUnit(open);
            int sign = next();
            for (int i = 0; i < ROOM && (sign == '*' || sign == '/') && takes(sign); i++) {
                parseUnit(open);
                emit(-sign);
                sign = next();
            }
        }

        private void parseUnit(int open) {
            int signs = at;
            for (int i = 0; i < ROOM && (takes('!') || takes('-')); i++) {
                continue;
            }
            int behindSigns = at;
            parseCore(open);
            // The sign next to the unit works first.
            for (int i = behindSigns - 1; i >= signs; i--) {
                int sign = characterAt(i);
                if (sign == '!' || sign == '-') {
                    emit(sign == '!' ? -'!' : -NEGATE);
                }
            }
        }

        private void parseCore(int open) {
            int c = next();
            if (isDigit(c)) {
                parseNumber();
            } else if (isSeen(c)) {
                takes(c);
                emit(-c);
            } else if (c == '(' && open >= MOST_OPEN) {
                breakHere(TOO_MANY_OPEN);
            } else if (takes('(')) {
                parseValue(open + 1);
                if (!takes(')')) {
                    breakHere(CAN_NOT_STAND);
                }
            } else {
                breakHere(CAN_NOT_STAND);
            }
        }

        private void parseNumber() {
            int first = at;
            int number = 0;
            for (int i = 0; i < MOST_DIGITS && isDigit(characterAt(at)); i++) {
                number = 10 * number + characterAt(at) - '0';
                at++;
            }
            if (isDigit(characterAt(at))) {
                at = first;
                breakHere(TOO_MANY_DIGITS);
            }
            emit(number);
        }

        private int characterAt(int i) {
            return i >= 0 && i < size && i < ROOM ? characters[i] : NONE;
        }

        /** The next character that is no blank; NONE at the end, and when the rule is broken. */
        private int next() {
            while (at < size && characterAt(at) == ' ' && broken == NONE) {
                at++;
            }
            return broken == NONE ? characterAt(at) : NONE;
        }

        private boolean takes(int character) {
            if (next() != character) {
                return false;
            }
            at++;
            return true;
        }

        private void breakHere(int reason) {
            if (broken == NONE) {
                broken = 10 * at + reason;
            }
        }

        private void emit(int step) {
            if (stepCount < ROOM) {
                steps[stepCount] = step;
                stepCount++;
            }
        }

        private boolean isDigit(int c) {
            return c >= '0' && c <= '9';
        }

        private boolean isSeen(int c) {
            return c == 'a' || c == 'n' || c == 'c' || c == 'b' || c == 'k' || c == 't';
        }

        /** Asked only when the rule has no fault: its steps are whole then. */
        long worked(Sight sight) {
            stacked = 0;
            for (int i = 0; i < stepCount && i < ROOM; i++) {
                int step = steps[i];
                if (step >= 0) {
                    push(step);
                } else if (isSeen(-step)) {
                    push(sight.valueOf(-step));
                } else if (step == -'!') {
                    push(pop() == 0 ? 1 : 0);
                } else if (step == -NEGATE) {
                    push(-pop());
                } else {
                    long right = pop();
                    push(joined(-step, pop(), right));
                }
            }
            return pop();
        }

        private void push(long number) {
            if (stacked < ROOM) {
                stack[stacked] = number;
                stacked++;
            }
        }

        private long pop() {
            if (stacked < 1 || stacked > ROOM) {
                return 0;
            }
            stacked--;
            return stack[stacked];
        }

        private long joined(int sign, long left, long right) {
            switch (sign) {
                case '|': return left != 0 || right != 0 ? 1 : 0;
                case '&': return left != 0 && right != 0 ? 1 : 0;
                case '<': return left < right ? 1 : 0;
                case '>': return left > right ? 1 : 0;
                case '=': return left == right ? 1 : 0;
                case '+': return left + right;
                case '-': return left - right;
                case '*': return left * right;
                default: return right == 0 ? 0 : left / right;
            }
        }

        long digestOn(long start) {
            long h = start;
            for (int i = 0; i < size; i++) {
                h = 31 * h + characterAt(i);
            }
            return h;
        }
    }

    /** What a walker sees in the mist. */
    static final class Sight {
        int ahead;
        int standing;
        int carrying;
        int takeable;
        int number;
        int round;

        int valueOf(int letter) {
            switch (letter) {
                case 'a': return ahead;
                case 'n': return standing;
                case 'c': return carrying;
                case 'b': return takeable;
                case 'k': return number;
                default: return round;
            }
        }
    }

    /** Walkers who go by the rule, on a code of their own. */
    static final class Mist {
        private final Sight sight = new Sight();
        int code;
        int loser = NONE;
        int gone;

        void run(Bog bog, Rule rule, int rounds) {
            code = bog.now;
            loser = NONE;
            gone = 0;
            boolean allStay = rule.faultCode() != NONE;
            for (int round = 0; round < rounds && loser == NONE; round++) {
                for (int w = 0; w < bog.walkers && loser == NONE && !allStay; w++) {
                    step(bog, rule, w, round);
                }
                gone++;
            }
        }

        private void step(Bog bog, Rule rule, int w, int round) {
            if (bog.isAtGoal(code, w)) {
                return;
            }
            look(bog, w, round);
            int choice = (int) Math.floorMod(rule.worked(sight), 4L);
            int act = actOf(bog, w, choice);
            if (act == NONE) {
                return;
            }
            int next = bog.outcome(code, act);
            if (next >= 0) {
                code = next;
            } else if (next == Bog.NOT_WELL || choice == 1) {
                loser = w;
            }
        }

        private void look(Bog bog, int w, int round) {
            int ahead = bog.walkerAt(code, w) + (bog.goals[w] == 0 ? -1 : 1);
            sight.ahead = bog.isFirm(code, ahead) ? 1 : 0;
            sight.standing = bog.standingAt(code, ahead);
            sight.carrying = bog.carriedBy(code, w) == NONE ? 0 : 1;
            int taking = actOf(bog, w, 3);
            sight.takeable = taking != NONE && bog.outcome(code, taking) >= 0 ? 1 : 0;
            sight.number = w;
            sight.round = round;
        }

        /** The act that a choice comes to; NONE: staying. */
        private int actOf(Bog bog, int w, int choice) {
            int way = bog.goals[w];
            if (choice == 1) {
                return 256 * Bog.WALK + 64 * w + 8 * way;
            }
            if (choice == 2) {
                int carried = bog.carriedBy(code, w);
                return carried == NONE ? NONE : 256 * Bog.LAY + 64 * w + 8 * carried + way;
            }
            if (choice == 3) {
                int away = bog.walkerAt(code, w) + (way == 0 ? 1 : -1);
                int lying = bog.boardOver(code, away);
                return lying == NONE ? NONE : 256 * Bog.TAKE + 64 * w + 8 * lying;
            }
            return NONE;
        }
    }

    /** Looks through all that acts can come to, the nearest first. */
    static final class Search {
        private static final int UNKNOWN = -9, MOST_LEAPS = 3, MOST_ACTS = 64, ACT_BITS = 10;
        private final int[] marks = new int[Bog.CODES];
        private final int[] queue = new int[Bog.CODES];
        private final int[] cameFrom = new int[Bog.CODES];
        private final int[] acts = new int[MOST_ACTS];
        private int actCount;
        private int mark;
        private int queued;
        private boolean keepsRow;
        private int reached;
        private int rowEnd;
        private int knownRow = UNKNOWN;
        private final int[] knownLengths = {UNKNOWN, UNKNOWN};
        private final int[] knownLeaps = {UNKNOWN, UNKNOWN, UNKNOWN};

        /** What was found holds only until the bog changes. */
        void forget() {
            knownRow = UNKNOWN;
            for (int i = 0; i < knownLengths.length; i++) {
                knownLengths[i] = UNKNOWN;
            }
            for (int i = 0; i < knownLeaps.length; i++) {
                knownLeaps[i] = UNKNOWN;
            }
        }

        int rowLength(Bog bog) {
            if (knownRow == UNKNOWN) {
                keepsRow = true;
                knownRow = shortest(bog, bog.now);
                rowEnd = reached;
                keepsRow = false;
            }
            return knownRow;
        }

        /** Act i of the row that rowLength() found. */
        int rowAct(int i) {
            int code = rowEnd;
            for (int left = knownRow - 1; left > i; left--) {
                code = cameFromAt(code) >> ACT_BITS;
            }
            return cameFromAt(code) & (1 << ACT_BITS) - 1;
        }

        private int cameFromAt(int code) {
            return code >= 0 && code < cameFrom.length ? cameFrom[code] : 0;
        }

        int lengthWithout(Bog bog, int b) {
            if (b < 0 || b >= knownLengths.length) {
                return NONE;
            }
            if (knownLengths[b] == UNKNOWN) {
                boolean isUsed = bog.loadOn(bog.now, b) > 0;
                knownLengths[b] = isUsed ? NONE : shortest(bog, bog.withBoard(bog.now, b, Bog.NOWHERE));
            }
            return knownLengths[b];
        }

        /** Without a board; with NONE: with all. */
        int leapsWithout(Bog bog, int b) {
            int i = b + 1;
            if (i < 0 || i >= knownLeaps.length) {
                return NONE;
            }
            if (knownLeaps[i] == UNKNOWN) {
                boolean isUsed = b != NONE && bog.loadOn(bog.now, b) > 0;
                int start = b == NONE ? bog.now : bog.withBoard(bog.now, b, Bog.NOWHERE);
                knownLeaps[i] = isUsed ? NONE : fewestLeaps(bog, start);
            }
            return knownLeaps[i];
        }

        /**
         * By how few acts all are over; reached is where. Codes are queued in the order of the least rows that
         * lead to them, so the first one that is over ends the least row of all.
         */
        private int shortest(Bog bog, int start) {
            begin(start);
            if (bog.isOver(start)) {
                return 0;
            }
            listActs(bog, 0, Bog.PLAIN_ACTS);
            int length = 0;
            int levelEnd = 0;
            for (int head = 0; head < queued && head < queue.length; head++) {
                if (head == levelEnd) {
                    length++;
                    levelEnd = queued;
                }
                if (goOn(bog, queue[head])) {
                    return length;
                }
            }
            return NONE;
        }

        private int fewestLeaps(Bog bog, int start) {
            begin(start);
            if (bog.isOver(start)) {
                return 0;
            }
            int layer = 0;
            for (int leaps = 0; leaps <= MOST_LEAPS; leaps++) {
                listActs(bog, 0, Bog.PLAIN_ACTS);
                for (int head = layer; head < queued && head < queue.length; head++) {
                    if (goOn(bog, queue[head])) {
                        return leaps;
                    }
                }
                int layerEnd = leaps < MOST_LEAPS ? queued : layer;
                listActs(bog, Bog.PLAIN_ACTS, Bog.ALL_ACTS);
                for (int head = layer; head < layerEnd && head < queue.length; head++) {
                    if (goOn(bog, queue[head])) {
                        return leaps + 1;
                    }
                }
                layer = layerEnd;
            }
            return NONE;
        }

        private void begin(int start) {
            mark++;
            queued = 0;
            reached = start;
            enter(start);
        }

        private void listActs(Bog bog, int least, int end) {
            actCount = 0;
            for (int act = least; act < end; act++) {
                if (bog.isSuch(act) && actCount < MOST_ACTS) {
                    acts[actCount] = act;
                    actCount++;
                }
            }
        }

        /** Queues what follows a code; says whether one of it is over. */
        private boolean goOn(Bog bog, int code) {
            for (int i = 0; i < actCount && i < MOST_ACTS; i++) {
                int next = bog.outcome(code, acts[i]);
                if (next >= 0 && enter(next)) {
                    if (keepsRow) {
                        cameFrom[next] = code << ACT_BITS | acts[i];
                    }
                    if (bog.isOver(next)) {
                        reached = next;
                        return true;
                    }
                }
            }
            return false;
        }

        /** A code is queued once: what comes to it later comes by a longer row, or by one that is not the least. */
        private boolean enter(int code) {
            if (code < 0 || code >= Bog.CODES || queued >= Bog.CODES || marks[code] == mark) {
                return false;
            }
            marks[code] = mark;
            queue[queued] = code;
            queued++;
            return true;
        }
    }

    /** A fraction in lowest terms, of numbers in limbs. */
    static final class Fraction {
        private static final int ROOM = 4, LIMB_BITS = 30;
        private static final long LIMB_MASK = (1L << LIMB_BITS) - 1;
        private final long[] above = new long[ROOM];
        private final long[] below = {1, 0, 0, 0};
        private final long[] term = new long[ROOM];
        int aboveSize;
        int belowSize = 1;

        /** The chance that k at least of n years are lost, each with w of 10. */
        void chanceOfAtLeast(int n, int w, int k) {
            setTo(above, 0);
            setTo(below, 1);
            for (int i = 0; i < n; i++) {
                multiply(below, TENTHS);
            }
            long ways = 1;
            for (int lostYears = 0; lostYears <= n; lostYears++) {
                if (lostYears >= k) {
                    setTo(term, ways);
                    multiplyOften(w, lostYears);
                    multiplyOften(TENTHS - w, n - lostYears);
                    addTerm();
                }
                ways = ways * (n - lostYears) / (lostYears + 1);
            }
            shorten(n);
            aboveSize = sizeOf(above);
            belowSize = sizeOf(below);
        }

        private void setTo(long[] limbs, long number) {
            limbs[0] = number;
            for (int i = 1; i < ROOM; i++) {
                limbs[i] = 0;
            }
        }

        private void multiply(long[] limbs, long factor) {
            long carry = 0;
            for (int i = 0; i < ROOM; i++) {
                carry += limbs[i] * factor;
                limbs[i] = carry & LIMB_MASK;
                carry >>= LIMB_BITS;
            }
        }

        private void multiplyOften(int factor, int times) {
            for (int i = 0; i < times; i++) {
                multiply(term, factor);
            }
        }

        private void addTerm() {
            long carry = 0;
            for (int i = 0; i < ROOM; i++) {
                carry += above[i] + term[i];
                above[i] = carry & LIMB_MASK;
                carry >>= LIMB_BITS;
            }
        }

        /** Below stands 10 to the n: nothing but n twos and n fives can be shared. */
        private void shorten(int n) {
            if (sizeOf(above) == 0) {
                setTo(below, 1);
                return;
            }
            shortenBy(2, n);
            shortenBy(5, n);
        }

        private void shortenBy(int prime, int times) {
            for (int i = 0; i < times && isMultiple(above, prime) && isMultiple(below, prime); i++) {
                divide(above, prime);
                divide(below, prime);
            }
        }

        private boolean isMultiple(long[] limbs, int prime) {
            long rest = 0;
            for (int i = ROOM - 1; i >= 0; i--) {
                rest = (rest << LIMB_BITS | limbs[i]) % prime;
            }
            return rest == 0;
        }

        private void divide(long[] limbs, int prime) {
            long rest = 0;
            for (int i = ROOM - 1; i >= 0; i--) {
                long part = rest << LIMB_BITS | limbs[i];
                limbs[i] = part / prime;
                rest = part % prime;
            }
        }

        private int sizeOf(long[] limbs) {
            int size = ROOM;
            while (size > 0 && limbs[size - 1] == 0) {
                size--;
            }
            return size;
        }

        int aboveLimb(int i) {
            return i >= 0 && i < aboveSize ? (int) above[i] : NONE;
        }

        int belowLimb(int i) {
            return i >= 0 && i < belowSize ? (int) below[i] : NONE;
        }

        long digestOn(long start) {
            long h = 31 * start + (aboveSize == 0 ? 0 : 1);
            h = 31 * h + aboveSize;
            h = 31 * h + belowSize;
            for (int i = 0; i < aboveSize; i++) {
                h = 31 * h + aboveLimb(i);
            }
            for (int i = 0; i < belowSize; i++) {
                h = 31 * h + belowLimb(i);
            }
            return h;
        }
    }

    /** The codes ahead of the latest acts, the oldest first. */
    static final class Past {
        static final int ROOM = 8;
        final int[] codes = new int[ROOM];
        int size;

        void remember(int code) {
            if (size >= ROOM) {
                System.arraycopy(codes, 1, codes, 0, ROOM - 1);
                size = ROOM - 1;
            }
            codes[size] = code;
            size++;
        }

        /** Asked only when there is one. */
        int takeLatest() {
            if (size < 1 || size > ROOM) {
                return 0;
            }
            size--;
            return codes[size];
        }

        void copyOf(Past other) {
            System.arraycopy(other.codes, 0, codes, 0, ROOM);
            size = other.size;
        }
    }

    /** What an image keeps. */
    static final class Image {
        boolean isKept;
        final Bog bog = new Bog();
        final Rule rule = new Rule();
        final Past past = new Past();
    }
}
