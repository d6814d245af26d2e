import java.util.Arrays;
import java.util.NoSuchElementException;

/** A park whose gravel goes round and whose people go straight: README.md says how it is used. */
public final class GrassPark {
    public static final int NONE = -1;

    private static final int NOT_TOLD = -2;
    private static final int NO_HABIT = -1000;

    private static final int SIDE_MIN = 4;
    private static final int SIDE_MAX = 16;
    private static final int CELLS = 256;
    private static final int DOORS = 9;
    private static final int WISHES = 24;
    private static final int WALKERS = 60;
    private static final int HABITS = 6;
    private static final int LONGEST_WALK = 200;
    private static final int LAST_TICK = 60000;
    private static final int MOST_WEAR = 999;
    private static final int MOST_WET = 200;
    private static final int PLACES = 3;
    private static final int WAYS = 5;
    private static final int MOST_NET_DOORS = 6;
    private static final int MOST_FENCE_CELLS = 12;
    private static final int MOST_LASTING_WEEKS = 40;
    private static final int MOST_PAVING_WEEKS = 20;
    private static final int MOST_WEEK_TICKS = 200;

    private static final int GRASS = 0;
    private static final int GRAVEL = 1;
    private static final int BED = 2;
    private static final int TREE = 3;
    private static final int PAVED = 4;
    private static final int STEPS = 5;
    private static final int FENCE = 6;

    /** What a LINE tells; the first five are a LAW's, in the order of LAW_WORDS. */
    private static final int WEAR = 0;
    private static final int GROW = 1;
    private static final int LINE = 2;
    private static final int MUD = 3;
    private static final int DRY = 4;
    private static final int WEIGH = 5;
    private static final int NEVER = 6;
    private static final int SIGHT = 7;

    /** The MEASURES, in the order of MEASURE_WORDS. */
    private static final int BY_GREEN = 0;
    private static final int BY_WET = 1;
    private static final int BY_CLIMB = 2;
    private static final int BY_CROWD = 3;
    private static final int BY_TURN = 4;
    private static final int BY_COME = 5;
    private static final int BY_LINE = 6;
    private static final int MEASURES = 7;

    /** What a COND asks of a CELL; the last three join what was asked. */
    private static final int ASK_KIND = 0;
    private static final int ASK_SIGN = 1;
    private static final int ASK_MUDDY = 2;
    private static final int ASK_WORN = 3;
    private static final int ASK_WEAR = 4;
    private static final int ASK_WET = 5;
    private static final int ASK_HEIGHT = 6;
    private static final int ASK_TROD = 7;
    private static final int NOT = 8;
    private static final int AND = 9;
    private static final int OR = 10;

    /** The eight ways: from above on with the clock, so the even ones are straight. */
    private static final int EIGHT = 8;
    private static final int[] ACROSS = {0, 1, 1, 1, 0, -1, -1, -1};
    private static final int[] DOWN = {-1, -1, 0, 1, 1, 1, 0, -1};

    private final Tape tape = new Tape();
    private final Reader reader = new Reader(tape);
    private final Land land = new Land();
    private final Walk walk = new Walk(land);
    private final Net nets = new Net(walk);
    private final Snow tracks = new Snow();
    private final Land trial = new Land();
    private final Land[] images = new Land[PLACES];
    private final boolean[] kept = new boolean[PLACES];
    private final int[] path = new int[LONGEST_WALK + 1];
    private final int[] trail = new int[LONGEST_WALK + 1];
    private final int[] fence = new int[2];
    private final int[] ends = new int[MOST_NET_DOORS];
    private int pathSteps = NONE;
    private int fencesSet = NONE;
    private int faultKind;

    public GrassPark() {
        for (int k = 0; k < PLACES; k++) {
            images[k] = new Land();
        }
    }

    public int feed(int a, int b, int c, int d, int e) {
        if (tape.length + 20 > Tape.MOST) {
            return NONE;
        }
        tape.put(a);
        tape.put(b);
        tape.put(c);
        tape.put(d);
        tape.put(e);
        return tape.length;
    }

    public boolean end(int n) {
        if (n < 0 || n > tape.length) {
            return false;
        }
        tape.length = n;
        return true;
    }

    public boolean park(int w, int h) {
        boolean told = tapeTellsPark(w, h);
        if (told) {
            land.renew(w, h, tape);
        }
        tape.length = 0;
        return told;
    }

    private boolean tapeTellsPark(int w, int h) {
        if (!within(w, SIDE_MIN, SIDE_MAX) || !within(h, SIDE_MIN, SIDE_MAX) || tape.length != w * h) {
            return false;
        }
        for (int i = 0; i < tape.length; i++) {
            if ((tape.bytes[i] & 7) > FENCE) {
                return false;
            }
        }
        return true;
    }

    public int door(int c) {
        if (land.doors == DOORS || !isCell(c) || !land.open(c) || land.hasDoor(c)) {
            return NONE;
        }
        land.door[land.doors] = c;
        return land.doors++;
    }

    public int law() {
        boolean good = reader.readText(walk.spare, true);
        if (good) {
            Text old = walk.law;
            walk.law = walk.spare;
            walk.spare = old;
        }
        return readingEnds(good, walk.law);
    }

    public int habit(int k) {
        if (!within(k, 0, HABITS - 1)) {
            tape.length = 0;
            return NO_HABIT;
        }
        boolean good = reader.readText(walk.spare, false);
        if (good) {
            Text old = walk.habits[k];
            walk.habits[k] = walk.spare;
            walk.spare = old;
        }
        return readingEnds(good, walk.habits[k]);
    }

    private int readingEnds(boolean good, Text text) {
        tape.length = 0;
        faultKind = reader.fault;
        return good ? text.lines : -1 - reader.place;
    }

    public int fault() {
        return faultKind;
    }

    public int wish(int from, int to, int habit, int every, int first) {
        if (land.wishes == WISHES || !twoDoors(from, to) || !within(habit, 0, HABITS - 1)) {
            return NONE;
        }
        if (!within(every, 1, 200) || !within(first, 0, LAST_TICK)) {
            return NONE;
        }
        Wish told = land.wish[land.wishes];
        told.from = from;
        told.to = to;
        told.habit = habit;
        told.every = every;
        told.first = first;
        told.is = true;
        return land.wishes++;
    }

    public boolean drop(int k) {
        if (!isWish(k)) {
            return false;
        }
        land.wish[k].is = false;
        return true;
    }

    public int run(int n) {
        if (!within(n, 1, 400) || land.tick + n > LAST_TICK) {
            return NONE;
        }
        walk.enter(land);
        return walk.go(n);
    }

    public int week() {
        walk.enter(land);
        walk.endWeek();
        return walk.wornCells();
    }

    public boolean rain(int n) {
        if (!within(n, 1, MOST_WET)) {
            return false;
        }
        for (int c = 0; c < land.cells(); c++) {
            int kind = land.kind[c];
            if (kind == GRASS || kind == BED || kind == GRAVEL) {
                land.wet[c] = Math.min(MOST_WET, land.wet[c] + n);
            }
        }
        return true;
    }

    public void snow() {
        Arrays.fill(land.snow, 0);
    }

    public boolean lay(int c, int kind) {
        if (!isCell(c) || !within(kind, GRASS, FENCE)) {
            return false;
        }
        if ((kind == TREE || kind == FENCE) && (land.hasDoor(c) || land.crowd[c] > 0)) {
            return false;
        }
        land.setKind(c, kind);
        return true;
    }

    public int cell(int c, int what) throws NoSuchElementException {
        if (!isCell(c) || !within(what, 0, 8)) {
            throw new NoSuchElementException("no such cell, or nothing of that number is told of it");
        }
        switch (what) {
            case 0: return land.kind[c];
            case 1: return land.sign[c];
            case 2: return land.height[c];
            case 3: return land.wear[c];
            case 4: return land.wet[c];
            case 5: return land.trod[c];
            case 6: return land.snow[c];
            case 7: return isWorn(c) ? 1 : 0;
            default: return isWorn(c) && land.wet[c] >= walk.law.mud ? 1 : 0;
        }
    }

    public int walker(int k, int what) {
        if (!within(k, 0, land.walkers - 1)) {
            return NONE;
        }
        Walker one = land.walker[k];
        switch (what) {
            case 0: return one.cell;
            case 1: return one.wish;
            case 2: return one.age;
            default: return NONE;
        }
    }

    public int net() {
        walk.enter(land);
        return walk.wornCells();
    }

    public int pieces() {
        walk.enter(land);
        return nets.parts();
    }

    public int rests(int weeks, int ticks) {
        if (!within(weeks, 1, MOST_LASTING_WEEKS) || !within(ticks, 1, MOST_WEEK_TICKS)) {
            return NOT_TOLD;
        }
        openCase();
        nets.keep(0);
        for (int n = 1; n <= weeks; n++) {
            oneWeek(ticks);
            nets.keep(n & 1);
            if (nets.alone(0, 1) + nets.alone(1, 0) == 0) {
                return n;
            }
        }
        return NONE;
    }

    public int least() {
        int answer = leastOfTape();
        tape.length = 0;
        return answer;
    }

    private int leastOfTape() {
        int n = tape.length;
        if (!within(n, 2, MOST_NET_DOORS)) {
            return NOT_TOLD;
        }
        for (int i = 0; i < n; i++) {
            int door = tape.bytes[i];
            if (!isDoor(door)) {
                return NOT_TOLD;
            }
            ends[i] = land.door[door];
            for (int j = 0; j < i; j++) {
                if (ends[j] == ends[i]) {
                    return NOT_TOLD;
                }
            }
        }
        walk.enter(land);
        return nets.leastCost(ends, n);
    }

    public int longer(int a, int b) {
        if (!twoDoors(a, b)) {
            return NOT_TOLD;
        }
        walk.enter(land);
        return nets.hundredths(land.door[a], land.door[b]);
    }

    public int turns(int habit, int weeks, int ticks, int most) {
        if (!within(habit, 0, HABITS - 1) || !within(weeks, 1, 4) || !within(ticks, 1, 100)) {
            return NOT_TOLD;
        }
        Text text = walk.habits[habit];
        int line = text.firstLineWeighed();
        if (line == NONE) {
            return NONE;
        }
        int told = text.number[line];
        int answer = NONE;
        for (int n = 0; n <= 9 && answer == NONE; n++) {
            text.number[line] = n;
            openCase();
            for (int k = 0; k < weeks; k++) {
                oneWeek(ticks);
            }
            if (walk.wornCells() <= most) {
                answer = n;
            }
        }
        text.number[line] = told;
        return answer;
    }

    public int paved(int w, int weeks, int ticks, int what) {
        if (!pavingTold(weeks, ticks) || !within(w, 1, weeks) || !within(what, 0, 2)) {
            return NONE;
        }
        keepWeeks(weeks, ticks);
        switch (what) {
            case 0: return nets.size(w);
            case 1: return nets.alone(w, weeks);
            default: return nets.alone(weeks, w);
        }
    }

    public int wait(int weeks, int ticks) {
        if (!pavingTold(weeks, ticks)) {
            return NONE;
        }
        keepWeeks(weeks, ticks);
        int best = 1;
        int least = CELLS + MOST_PAVING_WEEKS;
        for (int w = 1; w <= weeks; w++) {
            int loss = nets.alone(w, weeks) + nets.alone(weeks, w) + w;
            if (loss < least) {
                least = loss;
                best = w;
            }
        }
        return best;
    }

    private boolean pavingTold(int weeks, int ticks) {
        return within(weeks, 1, MOST_PAVING_WEEKS) && within(ticks, 1, MOST_WEEK_TICKS);
    }

    private void keepWeeks(int weeks, int ticks) {
        openCase();
        for (int n = 1; n <= weeks; n++) {
            oneWeek(ticks);
            nets.keep(n);
        }
    }

    public int fences(int c, int ticks) {
        int answer = fencesTold(c, ticks) ? fewestFences(c, ticks) : NOT_TOLD;
        tape.length = 0;
        return answer;
    }

    private boolean fencesTold(int c, int ticks) {
        if (!isCell(c) || !within(ticks, 1, 100) || !within(tape.length, 1, MOST_FENCE_CELLS)) {
            return false;
        }
        for (int i = 0; i < tape.length; i++) {
            int at = tape.bytes[i];
            if (!isCell(at) || !land.open(at) || land.hasDoor(at) || land.crowd[at] > 0) {
                return false;
            }
        }
        return true;
    }

    private int fewestFences(int c, int ticks) {
        if (nobodySteps(c, ticks, NONE, NONE)) {
            return setFences(0, NONE, NONE);
        }
        for (int i = 0; i < tape.length; i++) {
            if (nobodySteps(c, ticks, tape.bytes[i], NONE)) {
                return setFences(1, tape.bytes[i], NONE);
            }
        }
        for (int i = 0; i < tape.length; i++) {
            for (int j = i + 1; j < tape.length; j++) {
                if (nobodySteps(c, ticks, tape.bytes[i], tape.bytes[j])) {
                    return setFences(2, tape.bytes[i], tape.bytes[j]);
                }
            }
        }
        return NONE;
    }

    private boolean nobodySteps(int c, int ticks, int one, int other) {
        openCase();
        if (isCell(one)) {
            trial.setKind(one, FENCE);
        }
        if (isCell(other)) {
            trial.setKind(other, FENCE);
        }
        walk.watched = c;
        walk.go(ticks);
        return !walk.watchedTrod;
    }

    private int setFences(int n, int one, int other) {
        fencesSet = n;
        fence[0] = one;
        fence[1] = other;
        return n;
    }

    public int fenceAt(int k) {
        return within(k, 0, Math.min(fencesSet, fence.length) - 1) ? fence[k] : NONE;
    }

    public int lasts(int k, int c, int weeks, int ticks) {
        if (!isWish(k) || !isCell(c)) {
            return NOT_TOLD;
        }
        if (!within(weeks, 1, MOST_LASTING_WEEKS) || !within(ticks, 1, MOST_WEEK_TICKS)) {
            return NOT_TOLD;
        }
        openCase();
        trial.wish[k].is = false;
        for (int n = 0; n < weeks; n++) {
            if (!walk.worn(c)) {
                return n;
            }
            oneWeek(ticks);
        }
        return walk.worn(c) ? NONE : weeks;
    }

    public int way(int from, int to, int habit) {
        if (!wayTold(from, to, habit)) {
            return NOT_TOLD;
        }
        walk.enter(land);
        boolean arrives = walk.arrives(from, to, habit, path);
        pathSteps = walk.steps;
        return arrives ? pathSteps : NONE;
    }

    public int wayAt(int k) {
        return within(k, 0, Math.min(pathSteps, LONGEST_WALK)) ? path[k] : NONE;
    }

    public int read() {
        int answer = tellWays() ? tracks.tellings(land) : NONE;
        tape.length = 0;
        return answer;
    }

    private boolean tellWays() {
        int n = tape.length / 3;
        if (!within(n, 1, WAYS) || tape.length != 3 * n) {
            return false;
        }
        walk.enter(land);
        tracks.ways = n;
        for (int i = 0; i < n; i++) {
            int from = tape.bytes[3 * i];
            int to = tape.bytes[3 * i + 1];
            int habit = tape.bytes[3 * i + 2];
            if (!wayTold(from, to, habit) || !walk.arrives(from, to, habit, trail)) {
                return false;
            }
            tracks.setWay(i, trail, walk.steps);
        }
        return true;
    }

    public int reads(int i, int what) {
        if (!within(i, 0, tracks.waysRead - 1)) {
            return NONE;
        }
        switch (what) {
            case 0: return tracks.fewest[i];
            case 1: return tracks.most[i];
            default: return NONE;
        }
    }

    public int fits(int from, int to) {
        int answer = NONE;
        if (within(tape.length, 1, LONGEST_WALK) && twoDoors(from, to)) {
            answer = fitting(from, to);
        }
        tape.length = 0;
        return answer;
    }

    private int fitting(int from, int to) {
        int bits = 0;
        walk.enter(land);
        for (int h = 0; h < HABITS; h++) {
            walk.arrives(from, to, h, trail);
            if (walk.steps == tape.length && tapeTellsTrail()) {
                bits |= 1 << h;
            }
        }
        return bits;
    }

    private boolean tapeTellsTrail() {
        for (int i = 0; i < tape.length && i < LONGEST_WALK; i++) {
            if (tape.bytes[i] != trail[i + 1]) {
                return false;
            }
        }
        return true;
    }

    public boolean image(int k) {
        if (!within(k, 0, PLACES - 1)) {
            return false;
        }
        images[k].copy(land);
        kept[k] = true;
        return true;
    }

    public boolean restore(int k) {
        if (!within(k, 0, PLACES - 1) || !kept[k]) {
            return false;
        }
        land.copy(images[k]);
        return true;
    }

    public int count(int what) {
        switch (what) {
            case 0: return land.w;
            case 1: return land.h;
            case 2: return land.doors;
            case 3: return land.wishesThatAre();
            case 4: return land.walkers;
            case 5: return land.tick;
            case 6: return land.arrived;
            case 7: return land.lost;
            case 8: return land.turnedAway;
            case 9: return tape.length;
            default: return NONE;
        }
    }

    private static boolean within(int n, int low, int high) {
        return n >= low && n <= high;
    }

    private boolean isCell(int c) {
        return within(c, 0, land.cells() - 1);
    }

    private boolean isDoor(int k) {
        return within(k, 0, land.doors - 1);
    }

    private boolean twoDoors(int a, int b) {
        return isDoor(a) && isDoor(b) && a != b;
    }

    private boolean isWish(int k) {
        return within(k, 0, land.wishes - 1) && land.wish[k].is;
    }

    private boolean isWorn(int c) {
        return land.wear[c] >= walk.law.line;
    }

    private boolean wayTold(int from, int to, int habit) {
        return twoDoors(from, to) && within(habit, 0, HABITS - 1);
    }

    private void openCase() {
        trial.copy(land);
        walk.enter(trial);
    }

    private void oneWeek(int ticks) {
        walk.go(ticks);
        walk.endWeek();
    }

    /** The bytes that feed() brings. */
    private static final class Tape {
        static final int MOST = 440;

        final int[] bytes = new int[MOST];
        int length;

        void put(int number) {
            if (length > MOST - 4) {
                return;
            }
            bytes[length] = number >>> 24;
            bytes[length + 1] = number >>> 16 & 255;
            bytes[length + 2] = number >>> 8 & 255;
            bytes[length + 3] = number & 255;
            length += 4;
        }
    }

    /** A LAW or a HABIT as it was read: its LINES, and their CONDS as steps that a small stack takes. */
    private static final class Text {
        static final int LINES = 16;
        /** 40 ONES and what joins them never need more. */
        static final int CODES = 96;

        final int[] what = new int[LINES];
        final int[] measure = new int[LINES];
        final int[] number = new int[LINES];
        final int[] start = new int[LINES];
        final int[] stop = new int[LINES];
        final int[] ask = new int[CODES];
        final int[] low = new int[CODES];
        final int[] high = new int[CODES];
        int lines;
        int codes;
        int line;
        int mud;
        int dry;
        int sight;

        Text() {
            clear();
        }

        void clear() {
            lines = 0;
            codes = 0;
            line = 40;
            mud = 50;
            dry = 10;
            sight = 3;
        }

        int firstLineWeighed() {
            for (int i = 0; i < lines; i++) {
                if (what[i] == WEIGH && measure[i] == BY_LINE) {
                    return i;
                }
            }
            return NONE;
        }
    }

    /** Reads a text: first all its TOKENS as far as they are some, then what they tell. */
    private static final class Reader {
        static final int MOST_BYTES = 400;
        static final int MOST_ONES = 40;
        static final int MOST_WITHIN = 10;
        /** More than anything that is asked, which is never below 0. */
        static final int NO_BOUND = 2147483647;

        /** The types of TOKENS; a sign's type is its own byte. */
        static final int END = 0;
        static final int NO_TOKEN = 1;
        static final int WORD = 2;
        static final int NUMBER = 3;

        static final String LAW_WORDS = "wear grow line mud dry";
        static final String HABIT_WORDS = "weigh never sight";
        static final String MEASURE_WORDS = "green wet climb crowd turn come line";
        static final String ONE_WORDS =
            "grass gravel bed paved steps sign muddy worn wear wet height trod not";
        /** By ONE_WORDS: what is asked, and which answer is a yes, where no SIGN tells it. */
        static final int[] ASKS = {
            ASK_KIND, ASK_KIND, ASK_KIND, ASK_KIND, ASK_KIND, ASK_SIGN, ASK_MUDDY, ASK_WORN,
            ASK_WEAR, ASK_WET, ASK_HEIGHT, ASK_TROD, NOT};
        static final int[] YES = {GRASS, GRAVEL, BED, PAVED, STEPS, 1, 1, 1, 0, 0, 0, 0, 0};

        final Tape tape;
        final int[] types = new int[MOST_BYTES + 1];
        final int[] starts = new int[MOST_BYTES + 1];
        final int[] stops = new int[MOST_BYTES + 1];
        final int[] values = new int[MOST_BYTES + 1];
        int tokens;
        /** The TOKEN that is looked at, and its type. */
        int now;
        int type;
        Text text;
        boolean asLaw;
        /** What may be told once and was told, as bits. */
        int told;
        int ones;
        int fault;
        int place;

        Reader(Tape source) {
            tape = source;
        }

        boolean readText(Text into, boolean law) {
            text = into;
            asLaw = law;
            text.clear();
            told = 0;
            ones = 0;
            fault = 0;
            place = 0;
            findTokens();
            now = 0;
            type = types[0];
            for (int n = 0; n <= Text.LINES; n++) {
                if (type == END) {
                    return tape.length <= MOST_BYTES || fail(1);
                }
                if (!line()) {
                    return false;
                }
            }
            return false;
        }

        private boolean fail(int kind) {
            fault = kind;
            place = starts[now];
            return false;
        }

        /** The end, or what is no TOKEN, is the last one: nothing behind it is ever looked at. */
        private void findTokens() {
            int end = Math.min(tape.length, MOST_BYTES);
            int at = 0;
            tokens = 0;
            while (at < end) {
                int c = tape.bytes[at];
                int next = at + 1;
                if (c != ' ' && c != '\n') {
                    next = Math.max(next, tokenAt(at));
                    tokens++;
                    if (types[tokens - 1] == NO_TOKEN) {
                        return;
                    }
                }
                at = next;
            }
            types[tokens] = END;
            starts[tokens] = end;
            stops[tokens] = end;
            tokens++;
        }

        /** Keeps what begins at a byte that is no blank; answers where it stops. */
        private int tokenAt(int at) {
            int letters = 0;
            int digits = 0;
            int value = 0;
            int stop = at;
            while (stop < tape.length) {
                int c = tape.bytes[stop];
                if (within(c, 'a', 'z')) {
                    letters++;
                } else if (within(c, '0', '9')) {
                    digits++;
                    value = digits <= 3 ? 10 * value + c - '0' : value;
                } else {
                    break;
                }
                stop++;
            }
            int t = NO_TOKEN;
            if (stop == at) {
                t = signAt(at);
                stop = at + 1;
            } else if (digits == 0 && letters <= 6) {
                t = WORD;
            } else if (letters == 0 && digits <= 3) {
                t = NUMBER;
            }
            types[tokens] = t;
            starts[tokens] = at;
            stops[tokens] = stop;
            values[tokens] = value;
            return stop;
        }

        private int signAt(int at) {
            int c = tape.bytes[at];
            boolean is = c == ';' || c == '(' || c == ')' || c == '<' || c == '=' || c == '>';
            return is ? c : NO_TOKEN;
        }

        private void goOn() {
            if (now < tokens - 1) {
                now++;
                type = types[now];
            }
        }

        /** Which of some words the TOKEN is; NONE: none of them. */
        private int among(String words) {
            if (type != WORD) {
                return NONE;
            }
            int start = starts[now];
            int length = stops[now] - start;
            int index = 0;
            int at = 0;
            boolean same = true;
            for (int i = 0; i <= words.length(); i++) {
                if (i == words.length() || words.charAt(i) == ' ') {
                    if (same && i - at == length) {
                        return index;
                    }
                    index++;
                    at = i + 1;
                    same = true;
                } else {
                    same = same && i - at < length && words.charAt(i) == tape.bytes[start + i - at];
                }
            }
            return NONE;
        }

        private boolean line() {
            int word = among(asLaw ? LAW_WORDS : HABIT_WORDS);
            if (word < 0) {
                return fail(1);
            }
            int what = asLaw ? word : WEIGH + word;
            if (text.lines >= Text.LINES || (told & 1 << what) != 0) {
                return fail(3);
            }
            int i = text.lines;
            text.what[i] = what;
            text.measure[i] = 0;
            text.number[i] = 0;
            text.start[i] = text.codes;
            text.stop[i] = text.codes;
            goOn();
            boolean good = what == NEVER || (what == WEIGH ? weighed(i) : numbered(i, what));
            if (!good) {
                return false;
            }
            boolean mayAsk = what == WEAR || what == GROW || what == WEIGH;
            boolean asks = mayAsk && among("if") == 0;
            if (asks) {
                goOn();
            }
            if ((asks || what == NEVER) && !cond(1)) {
                return false;
            }
            if (type != ';') {
                return fail(1);
            }
            goOn();
            text.stop[i] = text.codes;
            text.lines++;
            return true;
        }

        private boolean weighed(int i) {
            int measure = among(MEASURE_WORDS);
            if (measure < 0) {
                return fail(1);
            }
            text.measure[i] = measure;
            goOn();
            return numbered(i, WEIGH);
        }

        private boolean numbered(int i, int what) {
            if (type != NUMBER) {
                return fail(1);
            }
            int n = values[now];
            int most = what == WEIGH ? 99 : what == SIGHT ? 9 : 999;
            if (n > most || (what == LINE && n < 1)) {
                return fail(2);
            }
            text.number[i] = n;
            switch (what) {
                case LINE:
                    text.line = n;
                    break;
                case MUD:
                    text.mud = n;
                    break;
                case DRY:
                    text.dry = n;
                    break;
                case SIGHT:
                    text.sight = n;
                    break;
                default:
                    break;
            }
            boolean once = what == LINE || what == MUD || what == DRY || what == SIGHT;
            told |= once ? 1 << what : 0;
            goOn();
            return true;
        }

        /** A COND, its ONES so many within one another; every turn of the loops takes one of the ONES. */
        private boolean cond(int depth) {
            if (!all(depth)) {
                return false;
            }
            for (int n = 0; n < MOST_ONES && among("or") == 0; n++) {
                goOn();
                if (!all(depth)) {
                    return false;
                }
                emit(OR, 0, 0);
            }
            return true;
        }

        private boolean all(int depth) {
            if (!one(depth)) {
                return false;
            }
            for (int n = 0; n < MOST_ONES && among("and") == 0; n++) {
                goOn();
                if (!one(depth)) {
                    return false;
                }
                emit(AND, 0, 0);
            }
            return true;
        }

        private boolean one(int depth) {
            int word = among(ONE_WORDS);
            if (word < 0 && type != '(') {
                return fail(1);
            }
            if (ones >= MOST_ONES || depth > MOST_WITHIN) {
                return fail(4);
            }
            ones++;
            goOn();
            if (word < 0) {
                if (!cond(depth + 1)) {
                    return false;
                }
                if (type != ')') {
                    return fail(1);
                }
                goOn();
                return true;
            }
            int ask = ASKS[word];
            if (ask == NOT) {
                if (!one(depth + 1)) {
                    return false;
                }
                emit(NOT, 0, 0);
                return true;
            }
            if (ask >= ASK_WEAR) {
                return comparison(ask);
            }
            emit(ask, YES[word], YES[word]);
            return true;
        }

        private boolean comparison(int ask) {
            int sign = type;
            if (sign != '<' && sign != '=' && sign != '>') {
                return fail(1);
            }
            goOn();
            if (type != NUMBER) {
                return fail(1);
            }
            int n = values[now];
            if (sign == '<') {
                emit(ask, 0, n - 1);
            } else if (sign == '=') {
                emit(ask, n, n);
            } else {
                emit(ask, n + 1, NO_BOUND);
            }
            goOn();
            return true;
        }

        private void emit(int ask, int low, int high) {
            if (text.codes < Text.CODES) {
                text.ask[text.codes] = ask;
                text.low[text.codes] = low;
                text.high[text.codes] = high;
                text.codes++;
            }
        }
    }

    private static final class Wish {
        int from;
        int to;
        int habit;
        int every;
        int first;
        boolean is;

        void copy(Wish other) {
            from = other.from;
            to = other.to;
            habit = other.habit;
            every = other.every;
            first = other.first;
            is = other.is;
        }

        boolean due(int tick) {
            return is && every > 0 && tick >= first && (tick - first) % every == 0;
        }
    }

    private static final class Walker {
        int cell;
        int wish;
        int age;
        /** The CELL from which it came last, and the way of its last step. */
        int came;
        int way;

        void begin(int at, int ofWish) {
            cell = at;
            wish = ofWish;
            age = 0;
            came = NONE;
            way = NONE;
        }

        void step(int to, int by) {
            came = cell;
            cell = to;
            way = by;
        }

        void copy(Walker other) {
            cell = other.cell;
            wish = other.wish;
            age = other.age;
            came = other.came;
            way = other.way;
        }
    }

    /** THE PARK: all that an image keeps. */
    private static final class Land {
        int w = SIDE_MIN;
        int h = SIDE_MIN;
        final int[] kind = new int[CELLS];
        final int[] sign = new int[CELLS];
        final int[] height = new int[CELLS];
        final int[] wear = new int[CELLS];
        final int[] wet = new int[CELLS];
        final int[] trod = new int[CELLS];
        final int[] snow = new int[CELLS];
        /** How many WALKERS are on each CELL. */
        final int[] crowd = new int[CELLS];
        final int[] door = new int[DOORS];
        int doors;
        final Wish[] wish = new Wish[WISHES];
        int wishes;
        final Walker[] walker = new Walker[WALKERS];
        int walkers;
        int tick;
        int arrived;
        int lost;
        int turnedAway;

        Land() {
            for (int i = 0; i < WISHES; i++) {
                wish[i] = new Wish();
            }
            for (int i = 0; i < WALKERS; i++) {
                walker[i] = new Walker();
            }
        }

        int cells() {
            return w * h;
        }

        boolean open(int c) {
            return kind[c] != TREE && kind[c] != FENCE;
        }

        boolean green(int c) {
            return kind[c] == GRASS || kind[c] == BED;
        }

        boolean hasDoor(int c) {
            for (int i = 0; i < doors; i++) {
                if (door[i] == c) {
                    return true;
                }
            }
            return false;
        }

        void setKind(int c, int to) {
            kind[c] = to;
            if (!green(c)) {
                wear[c] = 0;
            }
        }

        int wishesThatAre() {
            int n = 0;
            for (int i = 0; i < wishes; i++) {
                n += wish[i].is ? 1 : 0;
            }
            return n;
        }

        void renew(int width, int depth, Tape tape) {
            w = width;
            h = depth;
            for (int c = 0; c < w * h && c < CELLS; c++) {
                int told = tape.bytes[c];
                kind[c] = told & 7;
                sign[c] = told >> 3 & 1;
                height[c] = told >> 4;
            }
            Arrays.fill(wear, 0);
            Arrays.fill(wet, 0);
            Arrays.fill(trod, 0);
            Arrays.fill(snow, 0);
            Arrays.fill(crowd, 0);
            doors = 0;
            wishes = 0;
            walkers = 0;
            tick = 0;
            arrived = 0;
            lost = 0;
            turnedAway = 0;
        }

        void copy(Land other) {
            w = other.w;
            h = other.h;
            System.arraycopy(other.kind, 0, kind, 0, CELLS);
            System.arraycopy(other.sign, 0, sign, 0, CELLS);
            System.arraycopy(other.height, 0, height, 0, CELLS);
            System.arraycopy(other.wear, 0, wear, 0, CELLS);
            System.arraycopy(other.wet, 0, wet, 0, CELLS);
            System.arraycopy(other.trod, 0, trod, 0, CELLS);
            System.arraycopy(other.snow, 0, snow, 0, CELLS);
            System.arraycopy(other.crowd, 0, crowd, 0, CELLS);
            System.arraycopy(other.door, 0, door, 0, DOORS);
            doors = other.doors;
            wishes = other.wishes;
            for (int i = 0; i < wishes; i++) {
                wish[i].copy(other.wish[i]);
            }
            walkers = other.walkers;
            for (int i = 0; i < walkers; i++) {
                walker[i].copy(other.walker[i]);
            }
            tick = other.tick;
            arrived = other.arrived;
            lost = other.lost;
            turnedAway = other.turnedAway;
        }
    }

    /** Which CELL is beside which, for THE PARK's shape. */
    private static final class Grid {
        final int[] x = new int[CELLS];
        final int[] y = new int[CELLS];
        /** Eight for each CELL; NONE where THE PARK ends. */
        final int[] beside = new int[EIGHT * CELLS];
        int w;
        int h;

        void shape(int width, int depth) {
            if (width == w && depth == h) {
                return;
            }
            w = width;
            h = depth;
            for (int c = 0; c < w * h && c < CELLS; c++) {
                x[c] = c % w;
                y[c] = c / w;
                for (int d = 0; d < EIGHT; d++) {
                    beside[EIGHT * c + d] = at(x[c] + ACROSS[d], y[c] + DOWN[d]);
                }
            }
        }

        private int at(int column, int row) {
            return within(column, 0, w - 1) && within(row, 0, h - 1) ? w * row + column : NONE;
        }

        /** The way from a CELL to one beside it. */
        int wayTo(int c, int goal) {
            for (int d = 0; d < EIGHT; d++) {
                if (beside[EIGHT * c + d] == goal) {
                    return d;
                }
            }
            return NONE;
        }

        int distance(int c, int goal) {
            int across = Math.abs(x[c] - x[goal]);
            int down = Math.abs(y[c] - y[goal]);
            return 10 * Math.max(across, down) + 4 * Math.min(across, down);
        }
    }

    /** What moves a PARK on: WALKERS by their HABITS, wear by the LAW, WEEKS. */
    private static final class Walk {
        static final int MAY_COME = 0;
        static final int REFUSED = 1;

        final Grid grid = new Grid();
        final Text[] habits = new Text[HABITS];
        Text law = new Text();
        /** A text is read into this one, so that a FAULT spoils none that stands. */
        Text spare = new Text();
        /** What a HABIT says of a CELL, 256 for each HABIT: NONE, if it is to be looked at anew. */
        final int[] verdict = new int[HABITS * CELLS];
        /** The NUMBERS of the LINES that hold there, added for each MEASURE. */
        final int[][] sums = new int[MEASURES][HABITS * CELLS];
        final Walker single = new Walker();
        Land land;
        boolean alone;
        int watched;
        boolean watchedTrod;
        /** How many steps the latest way has. */
        int steps;

        Walk(Land first) {
            land = first;
            for (int i = 0; i < HABITS; i++) {
                habits[i] = new Text();
            }
        }

        /** Texts and CELLS may have changed since the last time, so nothing that was seen is kept. */
        void enter(Land entered) {
            land = entered;
            grid.shape(land.w, land.h);
            alone = false;
            watched = NONE;
            watchedTrod = false;
            forget();
        }

        private void forget() {
            Arrays.fill(verdict, NONE);
        }

        boolean worn(int c) {
            return land.wear[c] >= law.line;
        }

        int wornCells() {
            int n = 0;
            for (int c = 0; c < land.cells(); c++) {
                n += worn(c) ? 1 : 0;
            }
            return n;
        }

        /** So many TICKS, fewer if the watched CELL is trod; answers how many ARRIVED. */
        int go(int ticks) {
            int before = land.arrived;
            for (int n = 0; n < ticks && !watchedTrod; n++) {
                begin();
                for (int i = 0; i < land.walkers; i++) {
                    Walker one = land.walker[i];
                    Wish wish = land.wish[one.wish];
                    int goal = land.door[wish.to];
                    int way = choose(one, goal, wish.habit);
                    if (way != NONE) {
                        land.crowd[one.cell]--;
                        one.step(grid.beside[EIGHT * one.cell + way], way);
                        land.crowd[one.cell]++;
                        tread(one.cell);
                    }
                    one.age++;
                    leaveIfDone(one, goal);
                }
                sweep();
                land.tick++;
            }
            return land.arrived - before;
        }

        private void begin() {
            for (int k = 0; k < land.wishes; k++) {
                Wish wish = land.wish[k];
                if (!wish.due(land.tick)) {
                    continue;
                }
                if (land.walkers >= WALKERS) {
                    land.turnedAway++;
                } else {
                    int at = land.door[wish.from];
                    land.walker[land.walkers].begin(at, k);
                    land.walkers++;
                    land.crowd[at]++;
                }
            }
        }

        private void leaveIfDone(Walker one, int goal) {
            boolean arrives = one.cell == goal;
            if (!arrives && one.age < LONGEST_WALK) {
                return;
            }
            land.arrived += arrives ? 1 : 0;
            land.lost += arrives ? 0 : 1;
            land.crowd[one.cell]--;
            one.cell = NONE;
        }

        /** Those who left make room, the others keep their order. */
        private void sweep() {
            int stay = 0;
            for (int i = 0; i < land.walkers; i++) {
                Walker one = land.walker[i];
                if (one.cell != NONE) {
                    land.walker[i] = land.walker[stay];
                    land.walker[stay] = one;
                    stay++;
                }
            }
            land.walkers = stay;
        }

        private void tread(int c) {
            if (land.green(c)) {
                int more = firstNumber(WEAR, c, 5);
                land.wear[c] = Math.min(MOST_WEAR, land.wear[c] + more);
            }
            land.trod[c]++;
            land.snow[c]++;
            for (int h = 0; h < HABITS; h++) {
                verdict[CELLS * h + c] = NONE;
            }
            if (c == watched) {
                watchedTrod = true;
            }
        }

        void endWeek() {
            for (int c = 0; c < land.cells(); c++) {
                int less = firstNumber(GROW, c, 10);
                land.wear[c] = Math.max(0, land.wear[c] - less);
                land.wet[c] = Math.max(0, land.wet[c] - law.dry);
            }
            Arrays.fill(land.trod, 0);
            forget();
        }

        private int firstNumber(int what, int c, int without) {
            for (int i = 0; i < law.lines; i++) {
                if (law.what[i] == what && holds(law, i, c)) {
                    return law.number[i];
                }
            }
            return without;
        }

        /** A WAY, its CELLS from the DOOR on told in a row of 201; answers whether it ARRIVES. */
        boolean arrives(int from, int to, int habit, int[] row) {
            int goal = land.door[to];
            alone = true;
            steps = 0;
            single.begin(land.door[from], NONE);
            row[0] = single.cell;
            for (int n = 0; n < LONGEST_WALK && single.cell != goal; n++) {
                int way = choose(single, goal, habit);
                if (way == NONE) {
                    break;
                }
                single.step(grid.beside[EIGHT * single.cell + way], way);
                steps++;
                row[steps] = single.cell;
            }
            alone = false;
            return single.cell == goal;
        }

        /** The way of a WALKER's next step; NONE: it stays. */
        private int choose(Walker one, int goal, int habit) {
            int best = grid.wayTo(one.cell, goal);
            if (best != NONE) {
                return best;
            }
            int least = 0;
            for (int d = 0; d < EIGHT; d++) {
                int c = grid.beside[EIGHT * one.cell + d];
                if (c == NONE || !land.open(c)) {
                    continue;
                }
                int at = CELLS * habit + c;
                if (verdict[at] == NONE) {
                    look(habits[habit], at, c);
                }
                if (verdict[at] == REFUSED) {
                    continue;
                }
                int weight = grid.distance(c, goal) + weigh(one, at, d, habits[habit].sight);
                if (best == NONE || weight < least) {
                    best = d;
                    least = weight;
                }
            }
            return best;
        }

        /** Keeps what a HABIT says of a CELL: it stays so until the CELL changes. */
        private void look(Text text, int at, int c) {
            verdict[at] = MAY_COME;
            for (int m = 0; m < MEASURES; m++) {
                sums[m][at] = 0;
            }
            for (int i = 0; i < text.lines; i++) {
                boolean asks = text.what[i] == WEIGH || text.what[i] == NEVER;
                if (asks && holds(text, i, c)) {
                    if (text.what[i] == NEVER) {
                        verdict[at] = REFUSED;
                    } else {
                        sums[text.measure[i]][at] += text.number[i];
                    }
                }
            }
        }

        /** What the 'weigh' LINES add for a WALKER's step on a CELL that was looked at. */
        private int weigh(Walker one, int at, int d, int sight) {
            int c = at % CELLS;
            int weight = 0;
            if (sums[BY_GREEN][at] > 0 && land.green(c)) {
                weight += sums[BY_GREEN][at] * (Math.max(0, law.line - land.wear[c]) / 10);
            }
            weight += sums[BY_WET][at] * (land.wet[c] / 10);
            weight += sums[BY_CLIMB][at] * Math.abs(land.height[c] - land.height[one.cell]);
            weight += alone ? 0 : sums[BY_CROWD][at] * land.crowd[c];
            weight += one.way != NONE && one.way != d ? sums[BY_TURN][at] : 0;
            weight += one.came == c ? sums[BY_COME][at] : 0;
            if (sums[BY_LINE][at] > 0) {
                weight -= sums[BY_LINE][at] * wornAhead(c, d, sight);
            }
            return weight;
        }

        private int wornAhead(int c, int d, int sight) {
            int n = 0;
            int at = c;
            for (int k = 0; k < sight && at != NONE && land.open(at); k++) {
                n += worn(at) ? 1 : 0;
                at = grid.beside[EIGHT * at + d];
            }
            return n;
        }

        /** Whether the COND of a LINE holds of a CELL, or it has none. */
        private boolean holds(Text text, int i, int c) {
            if (text.start[i] == text.stop[i]) {
                return true;
            }
            int stack = 0;
            for (int n = text.start[i]; n < text.stop[i] && n < Text.CODES; n++) {
                int ask = text.ask[n];
                int top = stack & 1;
                if (ask == NOT) {
                    stack ^= 1;
                } else if (ask == OR) {
                    stack = stack >>> 1 | top;
                } else if (ask == AND) {
                    stack = stack >>> 1 & (-2 | top);
                } else {
                    int told = asked(ask, c);
                    stack = stack << 1 | (told >= text.low[n] && told <= text.high[n] ? 1 : 0);
                }
            }
            return (stack & 1) == 1;
        }

        private int asked(int ask, int c) {
            switch (ask) {
                case ASK_KIND: return land.kind[c];
                case ASK_SIGN: return land.sign[c];
                case ASK_MUDDY: return land.wear[c] >= law.line && land.wet[c] >= law.mud ? 1 : 0;
                case ASK_WORN: return land.wear[c] >= law.line ? 1 : 0;
                case ASK_WEAR: return land.wear[c];
                case ASK_WET: return land.wet[c];
                case ASK_HEIGHT: return land.height[c];
                default: return land.trod[c];
            }
        }
    }

    /** The NET of a PARK, as it is and as it was kept WEEK by WEEK, and the shortest and least that join. */
    private static final class Net {
        static final int FAR = 1000000;
        /** So many numbers of 64 bits hold a bit for each CELL. */
        static final int ROW = 4;

        final long[] bits = new long[ROW * (MOST_PAVING_WEEKS + 1)];
        final int[] row = new int[CELLS];
        /** What it costs to come on each CELL; FAR: nobody may. */
        final int[] price = new int[CELLS];
        /** For the first DOORS, as bits, and each CELL: the least cost of what joins them and that CELL. */
        final int[][] joined = new int[1 << MOST_NET_DOORS - 1][CELLS];
        final Walk walk;

        Net(Walk first) {
            walk = first;
        }

        /** Keeps the NET as it is now. */
        void keep(int week) {
            if (!within(week, 0, MOST_PAVING_WEEKS)) {
                return;
            }
            for (int i = 0; i < ROW; i++) {
                bits[ROW * week + i] = 0L;
            }
            for (int c = 0; c < walk.land.cells(); c++) {
                if (walk.worn(c)) {
                    bits[ROW * week + (c >> 6)] |= 1L << (c & 63);
                }
            }
        }

        int size(int week) {
            int n = 0;
            for (int i = 0; i < ROW; i++) {
                n += Long.bitCount(bits[ROW * week + i]);
            }
            return n;
        }

        /** How many CELLS the NET kept in one WEEK has that the one kept in another has not. */
        int alone(int week, int other) {
            int n = 0;
            for (int i = 0; i < ROW; i++) {
                n += Long.bitCount(bits[ROW * week + i] & ~bits[ROW * other + i]);
            }
            return n;
        }

        int parts() {
            int cells = walk.land.cells();
            int found = 0;
            for (int c = 0; c < cells; c++) {
                price[c] = walk.worn(c) ? 0 : FAR;
                row[c] = FAR;
            }
            for (int c = 0; c < cells; c++) {
                if (price[c] < FAR && row[c] == FAR) {
                    found++;
                    row[c] = 0;
                    spread(row, 0, 0);
                }
            }
            return found;
        }

        int hundredths(int from, int to) {
            Land land = walk.land;
            for (int c = 0; c < land.cells(); c++) {
                int kind = land.kind[c];
                boolean trodden = walk.worn(c) || kind == GRAVEL || kind == PAVED || kind == STEPS;
                price[c] = trodden || c == from || c == to ? 0 : FAR;
            }
            int along = shortest(from, to);
            for (int c = 0; c < land.cells(); c++) {
                price[c] = land.open(c) ? 0 : FAR;
            }
            int straight = shortest(from, to);
            return along >= FAR || straight <= 0 ? NONE : 100 * along / straight;
        }

        private int shortest(int from, int to) {
            Arrays.fill(row, FAR);
            row[from] = 0;
            spread(row, 10, 14);
            return row[to];
        }

        int leastCost(int[] ends, int n) {
            Land land = walk.land;
            for (int c = 0; c < land.cells(); c++) {
                price[c] = !land.open(c) ? FAR : land.green(c) ? 21 : 1;
            }
            int last = n - 1;
            for (int set = 1; set < 1 << last; set++) {
                Arrays.fill(joined[set], FAR);
                for (int i = 0; i < last; i++) {
                    if (set == 1 << i) {
                        joined[set][ends[i]] = price[ends[i]];
                    }
                }
                for (int part = (set - 1) & set; part > 0; part = (part - 1) & set) {
                    meet(set, part);
                }
                spread(joined[set], 0, 0);
            }
            int cost = joined[(1 << last) - 1][ends[last]];
            return cost >= FAR ? NONE : cost;
        }

        /** What joins one part of the DOORS and what joins the rest meet on a CELL, which costs once. */
        private void meet(int set, int part) {
            int[] one = joined[part];
            int[] other = joined[set ^ part];
            for (int c = 0; c < walk.land.cells(); c++) {
                if (one[c] < FAR && other[c] < FAR) {
                    joined[set][c] = Math.min(joined[set][c], one[c] + other[c] - price[c]);
                }
            }
        }

        /** Goes over the CELLS forth and back until no cost in the row gets less by a step from beside. */
        private void spread(int[] costs, int straight, int aslant) {
            int cells = walk.land.cells();
            boolean changed = true;
            for (int round = 0; round <= CELLS && changed; round++) {
                changed = false;
                for (int c = 0; c < cells; c++) {
                    changed |= cheaper(costs, c, straight, aslant);
                }
                for (int c = cells - 1; c >= 0; c--) {
                    changed |= cheaper(costs, c, straight, aslant);
                }
            }
        }

        private boolean cheaper(int[] costs, int c, int straight, int aslant) {
            if (price[c] >= FAR) {
                return false;
            }
            int least = costs[c];
            for (int d = 0; d < EIGHT; d++) {
                int from = walk.grid.beside[EIGHT * c + d];
                if (from != NONE) {
                    int step = (d & 1) == 0 ? straight : aslant;
                    least = Math.min(least, costs[from] + step + price[c]);
                }
            }
            boolean less = least < costs[c];
            costs[c] = least;
            return less;
        }
    }

    /** READS the SNOW: tries how many go each WAY, as long as no CELL has more steps than the SNOW tells. */
    private static final class Snow {
        static final int MOST_EACH = 9;

        final int[][] cells = new int[WAYS][LONGEST_WALK];
        final int[] lengths = new int[WAYS];
        int ways;
        final int[] left = new int[CELLS];
        int leftInAll;
        final int[] tried = new int[WAYS];
        final int[] lowest = new int[WAYS];
        final int[] highest = new int[WAYS];
        /** Of the latest read() above 0. */
        int waysRead;
        final int[] fewest = new int[WAYS];
        final int[] most = new int[WAYS];

        void setWay(int i, int[] row, int steps) {
            lengths[i] = Math.min(steps, LONGEST_WALK);
            for (int n = 0; n < lengths[i]; n++) {
                cells[i][n] = row[n + 1];
            }
        }

        int tellings(Land land) {
            leftInAll = 0;
            Arrays.fill(left, 0);
            for (int c = 0; c < land.cells(); c++) {
                left[c] = land.snow[c];
                leftInAll += left[c];
            }
            Arrays.fill(lowest, MOST_EACH);
            Arrays.fill(highest, 0);
            int found = tell(0);
            if (found > 0) {
                waysRead = ways;
                System.arraycopy(lowest, 0, fewest, 0, WAYS);
                System.arraycopy(highest, 0, most, 0, WAYS);
            }
            return found;
        }

        /** How many ways to tell for WAY i and those behind it; there are five at most. */
        private int tell(int i) {
            if (i >= ways || i >= WAYS) {
                return leftInAll == 0 ? note() : 0;
            }
            int found = 0;
            boolean fits = true;
            for (int n = 0; n <= MOST_EACH && fits; n++) {
                tried[i] = n;
                found += mayEnd(i + 1) ? tell(i + 1) : 0;
                fits = take(i, 1);
                tried[i] = n + 1;
            }
            for (int n = tried[i]; n > 0; n--) {
                take(i, -1);
            }
            return found;
        }

        /** Whether the WAYS from i on can leave all the steps that are left. */
        private boolean mayEnd(int i) {
            int can = 0;
            for (int k = i; k < ways && k < WAYS; k++) {
                can += MOST_EACH * lengths[k];
            }
            return leftInAll <= can;
        }

        /** Takes one going of a WAY out of what is left; answers whether no CELL has less than nothing now. */
        private boolean take(int i, int times) {
            boolean enough = true;
            for (int n = 0; n < lengths[i]; n++) {
                int c = cells[i][n];
                left[c] -= times;
                enough = enough && left[c] >= 0;
            }
            leftInAll -= times * lengths[i];
            return enough;
        }

        private int note() {
            for (int i = 0; i < ways && i < WAYS; i++) {
                lowest[i] = Math.min(lowest[i], tried[i]);
                highest[i] = Math.max(highest[i], tried[i]);
            }
            return 1;
        }
    }
}
