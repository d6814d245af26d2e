import java.util.ArrayDeque;
import java.util.ArrayList;
import java.util.Arrays;
import java.util.HashMap;
import java.util.HashSet;
import java.util.List;
import java.util.Map;
import java.util.NoSuchElementException;
import java.util.PriorityQueue;
import java.util.Set;
import java.util.function.IntPredicate;

/**
 * The document once more, in the plainest and slowest form that the Java library allows:
 * FuzzTest compares GrassPark with it. Nothing is kept from one look to the next here.
 */
final class NaivePark {
    static final class Fault extends RuntimeException {
        final int kind;
        final int place;

        Fault(int kind, int place) {
            this.kind = kind;
            this.place = place;
        }
    }

    static final class Token {
        final String text;
        final int place;
        final String type;

        Token(String text, int place, String type) {
            this.text = text;
            this.place = place;
            this.type = type;
        }
    }

    /** A COND: asked of a CELL, by its number. */
    interface Cond {
        boolean holds(NaivePark p, State s, int c);
    }

    static final class Line {
        String word;
        String measure;
        int number;
        Cond cond;
    }

    static final class Script {
        List<Line> lines = new ArrayList<>();

        int once(String word, int without) {
            for (Line l : lines) {
                if (l.word.equals(word)) {
                    return l.number;
                }
            }
            return without;
        }
    }

    static final class Parser {
        final String s;
        final boolean law;
        final List<Token> tokens = new ArrayList<>();
        int at;
        int ones;

        Parser(String s, boolean law) {
            this.s = s;
            this.law = law;
            int end = Math.min(400, s.length());
            int i = 0;
            while (i < end) {
                char c = s.charAt(i);
                if (c == ' ' || c == '\n') {
                    i++;
                    continue;
                }
                int j = i;
                while (j < s.length() && String.valueOf(s.charAt(j)).matches("[a-z0-9]")) {
                    j++;
                }
                if (j == i) {
                    String one = String.valueOf(c);
                    tokens.add(new Token(one, i, ";()<=>".contains(one) ? "sign" : "bad"));
                    i++;
                } else {
                    String run = s.substring(i, j);
                    String type = run.matches("[a-z]{1,6}") ? "word" : run.matches("[0-9]{1,3}") ? "number" : "bad";
                    tokens.add(new Token(run, i, type));
                    i = j;
                }
            }
            tokens.add(new Token("", end, "end"));
        }

        Token peek() {
            return tokens.get(at);
        }

        Fault bad(int kind) {
            return new Fault(kind, peek().place);
        }

        boolean comes(String text) {
            return peek().text.equals(text) && !peek().type.equals("end") && !peek().type.equals("bad");
        }

        void need(String text) {
            if (!comes(text)) {
                throw bad(1);
            }
            at++;
        }

        int number(int low, int high) {
            if (!peek().type.equals("number")) {
                throw bad(1);
            }
            int n = Integer.parseInt(peek().text);
            if (n < low || n > high) {
                throw bad(2);
            }
            at++;
            return n;
        }

        Script script() {
            Script script = new Script();
            while (!peek().type.equals("end")) {
                List<String> words = law ? List.of("wear", "grow", "line", "mud", "dry") : List.of("weigh", "never", "sight");
                Token t = peek();
                if (!t.type.equals("word") || !words.contains(t.text)) {
                    throw bad(1);
                }
                boolean once = Set.of("line", "mud", "dry", "sight").contains(t.text);
                if (once && script.lines.stream().anyMatch(l -> l.word.equals(t.text))) {
                    throw bad(3);
                }
                if (script.lines.size() == 16) {
                    throw bad(3);
                }
                at++;
                Line line = new Line();
                line.word = t.text;
                switch (t.text) {
                    case "wear":
                    case "grow":
                        line.number = number(0, 999);
                        line.cond = maybe();
                        break;
                    case "line":
                        line.number = number(1, 999);
                        break;
                    case "mud":
                    case "dry":
                        line.number = number(0, 999);
                        break;
                    case "sight":
                        line.number = number(0, 9);
                        break;
                    case "never":
                        line.cond = cond(0);
                        break;
                    default:
                        line.measure = peek().text;
                        if (!peek().type.equals("word")
                            || !Set.of("green", "wet", "climb", "crowd", "turn", "come", "line").contains(line.measure)) {
                            throw bad(1);
                        }
                        at++;
                        line.number = number(0, 99);
                        line.cond = maybe();
                        break;
                }
                need(";");
                script.lines.add(line);
            }
            if (s.length() > 400) {
                throw new Fault(1, 400);
            }
            return script;
        }

        Cond maybe() {
            if (comes("if")) {
                at++;
                return cond(0);
            }
            return null;
        }

        Cond cond(int within) {
            Cond c = all(within);
            while (comes("or")) {
                at++;
                Cond a = c;
                Cond b = all(within);
                c = (p, st, x) -> a.holds(p, st, x) || b.holds(p, st, x);
            }
            return c;
        }

        Cond all(int within) {
            Cond c = one(within);
            while (comes("and")) {
                at++;
                Cond a = c;
                Cond b = one(within);
                c = (p, st, x) -> a.holds(p, st, x) && b.holds(p, st, x);
            }
            return c;
        }

        Cond one(int within) {
            Token t = peek();
            Set<String> kinds = Set.of("grass", "gravel", "bed", "paved", "steps");
            Set<String> plain = Set.of("sign", "muddy", "worn");
            Set<String> counted = Set.of("wear", "wet", "height", "trod");
            boolean open = comes("(");
            boolean word = t.type.equals("word")
                && (t.text.equals("not") || kinds.contains(t.text) || plain.contains(t.text) || counted.contains(t.text));
            if (!open && !word) {
                throw bad(1);
            }
            ones++;
            if (ones > 40 || within >= 10) {
                throw bad(4);
            }
            at++;
            if (open) {
                Cond c = cond(within + 1);
                need(")");
                return c;
            }
            if (t.text.equals("not")) {
                Cond c = one(within + 1);
                return (p, st, x) -> !c.holds(p, st, x);
            }
            if (kinds.contains(t.text)) {
                int k = List.of("grass", "gravel", "bed", "tree", "paved", "steps").indexOf(t.text);
                return (p, st, x) -> st.kind[x] == k;
            }
            if (t.text.equals("sign")) {
                return (p, st, x) -> st.sign[x];
            }
            if (t.text.equals("worn")) {
                return (p, st, x) -> p.worn(st, x);
            }
            if (t.text.equals("muddy")) {
                return (p, st, x) -> p.muddy(st, x);
            }
            Token sign = peek();
            if (!comes("<") && !comes("=") && !comes(">")) {
                throw bad(1);
            }
            at++;
            int n = number(0, 999);
            return (p, st, x) -> {
                int v = t.text.equals("wear") ? st.wear[x] : t.text.equals("wet") ? st.wet[x]
                    : t.text.equals("height") ? st.height[x] : st.trod[x];
                return sign.text.equals("<") ? v < n : sign.text.equals("=") ? v == n : v > n;
            };
        }
    }

    static final class Wish {
        int number;
        int from;
        int to;
        int habit;
        int every;
        int first;
        boolean dropped;
    }

    static final class Walker {
        Wish wish;
        int cell;
        int goal;
        int habit;
        int ticks;
        int cameFrom = -1;
        int[] lastStep;

        Walker copy(List<Wish> wishes) {
            Walker o = new Walker();
            o.wish = wish == null ? null : wishes.get(wish.number);
            o.cell = cell;
            o.goal = goal;
            o.habit = habit;
            o.ticks = ticks;
            o.cameFrom = cameFrom;
            o.lastStep = lastStep;
            return o;
        }
    }

    static final class State {
        int w;
        int h;
        int[] kind;
        boolean[] sign;
        int[] height;
        int[] wear;
        int[] wet;
        int[] trod;
        int[] snow;
        List<Integer> doors = new ArrayList<>();
        List<Wish> wishes = new ArrayList<>();
        List<Walker> walkers = new ArrayList<>();
        int tick;
        int arrived;
        int lost;
        int away;

        State(int w, int h) {
            this.w = w;
            this.h = h;
            int n = w * h;
            kind = new int[n];
            sign = new boolean[n];
            height = new int[n];
            wear = new int[n];
            wet = new int[n];
            trod = new int[n];
            snow = new int[n];
        }

        State copy() {
            State o = new State(w, h);
            o.kind = kind.clone();
            o.sign = sign.clone();
            o.height = height.clone();
            o.wear = wear.clone();
            o.wet = wet.clone();
            o.trod = trod.clone();
            o.snow = snow.clone();
            o.doors = new ArrayList<>(doors);
            for (Wish x : wishes) {
                Wish y = new Wish();
                y.number = x.number;
                y.from = x.from;
                y.to = x.to;
                y.habit = x.habit;
                y.every = x.every;
                y.first = x.first;
                y.dropped = x.dropped;
                o.wishes.add(y);
            }
            for (Walker x : walkers) {
                o.walkers.add(x.copy(o.wishes));
            }
            o.tick = tick;
            o.arrived = arrived;
            o.lost = lost;
            o.away = away;
            return o;
        }

        boolean open(int c) {
            return kind[c] != 3 && kind[c] != 6;
        }

        boolean isCell(int c) {
            return c >= 0 && c < w * h;
        }

        int at(int x, int y) {
            return x < 0 || y < 0 || x >= w || y >= h ? -1 : w * y + x;
        }
    }

    static final int[][] CLOCK = {{0, -1}, {1, -1}, {1, 0}, {1, 1}, {0, 1}, {-1, 1}, {-1, 0}, {-1, -1}};

    List<Integer> tape = new ArrayList<>();
    Script law = new Script();
    Script[] habits = new Script[6];
    int faultKind;
    State s = new State(4, 4);
    State[] images = new State[3];
    List<Integer> latestWay = List.of();
    List<Integer> latestFences = List.of();
    int[][] latestReads = new int[0][];

    NaivePark() {
        for (int i = 0; i < 6; i++) {
            habits[i] = new Script();
        }
    }

    // ---- terms

    boolean worn(State st, int c) {
        return st.wear[c] >= law.once("line", 40);
    }

    boolean muddy(State st, int c) {
        return worn(st, c) && st.wet[c] >= law.once("mud", 50);
    }

    Set<Integer> netOf(State st) {
        Set<Integer> net = new HashSet<>();
        for (int c = 0; c < st.w * st.h; c++) {
            if (worn(st, c)) {
                net.add(c);
            }
        }
        return net;
    }

    int byLaw(State st, String word, int c, int without) {
        for (Line l : law.lines) {
            if (l.word.equals(word) && (l.cond == null || l.cond.holds(this, st, c))) {
                return l.number;
            }
        }
        return without;
    }

    int weight(State st, Walker a, int c, int[] step, boolean single) {
        int dx = Math.abs(c % st.w - a.goal % st.w);
        int dy = Math.abs(c / st.w - a.goal / st.w);
        int sum = 10 * Math.max(dx, dy) + 4 * Math.min(dx, dy);
        Script habit = habits[a.habit];
        for (Line l : habit.lines) {
            if (!l.word.equals("weigh") || (l.cond != null && !l.cond.holds(this, st, c))) {
                continue;
            }
            int m = 0;
            switch (l.measure) {
                case "green":
                    if (!worn(st, c) && (st.kind[c] == 0 || st.kind[c] == 2)) {
                        m = (law.once("line", 40) - st.wear[c]) / 10;
                    }
                    break;
                case "wet":
                    m = st.wet[c] / 10;
                    break;
                case "climb":
                    m = Math.abs(st.height[c] - st.height[a.cell]);
                    break;
                case "crowd":
                    for (Walker o : st.walkers) {
                        if (!single && o != a && o.cell == c) {
                            m++;
                        }
                    }
                    break;
                case "turn":
                    m = a.lastStep != null && a.lastStep != step ? 1 : 0;
                    break;
                case "come":
                    m = a.cameFrom == c ? 1 : 0;
                    break;
                default:
                    int x = c % st.w;
                    int y = c / st.w;
                    for (int i = 0; i < habit.once("sight", 3); i++) {
                        int on = st.at(x + i * step[0], y + i * step[1]);
                        if (on < 0 || !st.open(on)) {
                            break;
                        }
                        m += worn(st, on) ? 1 : 0;
                    }
                    m = -m;
                    break;
            }
            sum += l.number * m;
        }
        return sum;
    }

    /** Lets a WALKER do its step; answers whether it did one. */
    boolean step(State st, Walker a, boolean single) {
        int x = a.cell % st.w;
        int y = a.cell / st.w;
        int[] best = null;
        int least = Integer.MAX_VALUE;
        for (int[] d : CLOCK) {
            if (st.at(x + d[0], y + d[1]) == a.goal) {
                best = d;
                least = Integer.MIN_VALUE;
            }
        }
        for (int[] d : CLOCK) {
            int c = st.at(x + d[0], y + d[1]);
            if (least == Integer.MIN_VALUE || c < 0 || !st.open(c)) {
                continue;
            }
            boolean refused = false;
            for (Line l : habits[a.habit].lines) {
                refused |= l.word.equals("never") && l.cond.holds(this, st, c);
            }
            if (!refused && weight(st, a, c, d, single) < least) {
                least = weight(st, a, c, d, single);
                best = d;
            }
        }
        if (best == null) {
            return false;
        }
        a.cameFrom = a.cell;
        a.lastStep = best;
        a.cell = st.at(x + best[0], y + best[1]);
        return true;
    }

    /** One TICK; answers the CELLS that were stepped on. */
    Set<Integer> tick(State st) {
        Set<Integer> trodden = new HashSet<>();
        for (Wish wish : st.wishes) {
            int since = st.tick - wish.first;
            if (wish.dropped || since < 0 || since % wish.every != 0) {
                continue;
            }
            if (st.walkers.size() == 60) {
                st.away++;
                continue;
            }
            Walker a = new Walker();
            a.wish = wish;
            a.cell = st.doors.get(wish.from);
            a.goal = st.doors.get(wish.to);
            a.habit = wish.habit;
            st.walkers.add(a);
        }
        for (Walker a : new ArrayList<>(st.walkers)) {
            if (step(st, a, false)) {
                int c = a.cell;
                trodden.add(c);
                if (st.kind[c] == 0 || st.kind[c] == 2) {
                    st.wear[c] = Math.min(999, st.wear[c] + byLaw(st, "wear", c, 5));
                }
                st.trod[c]++;
                st.snow[c]++;
            }
            a.ticks++;
            if (a.cell == a.goal) {
                st.arrived++;
                st.walkers.remove(a);
            } else if (a.ticks == 200) {
                st.lost++;
                st.walkers.remove(a);
            }
        }
        st.tick++;
        return trodden;
    }

    void weekEnds(State st) {
        for (int c = 0; c < st.w * st.h; c++) {
            int less = byLaw(st, "grow", c, 10);
            st.wear[c] = Math.max(0, st.wear[c] - less);
            st.wet[c] = Math.max(0, st.wet[c] - law.once("dry", 10));
        }
        Arrays.fill(st.trod, 0);
    }

    void weekOf(State st, int ticks) {
        for (int i = 0; i < ticks; i++) {
            tick(st);
        }
        weekEnds(st);
    }

    /** The CELLS of a WAY, the DOOR's first. */
    List<Integer> walkWay(int from, int to, int habit) {
        Walker a = new Walker();
        a.cell = s.doors.get(from);
        a.goal = s.doors.get(to);
        a.habit = habit;
        List<Integer> cells = new ArrayList<>(List.of(a.cell));
        for (int i = 0; i < 200 && a.cell != a.goal; i++) {
            if (step(s, a, true)) {
                cells.add(a.cell);
            }
        }
        return cells;
    }

    boolean arrives(List<Integer> way, int to) {
        return way.get(way.size() - 1).equals(s.doors.get(to));
    }

    List<Integer> besides(int c) {
        List<Integer> all = new ArrayList<>();
        for (int[] d : CLOCK) {
            int b = s.at(c % s.w + d[0], c / s.w + d[1]);
            if (b >= 0) {
                all.add(b);
            }
        }
        return all;
    }

    int shortest(int from, int to, IntPredicate may) {
        Map<Integer, Integer> far = new HashMap<>();
        PriorityQueue<int[]> queue = new PriorityQueue<>((a, b) -> a[0] - b[0]);
        queue.add(new int[] {0, from});
        while (!queue.isEmpty()) {
            int[] top = queue.poll();
            if (far.containsKey(top[1])) {
                continue;
            }
            far.put(top[1], top[0]);
            for (int b : besides(top[1])) {
                if (may.test(b)) {
                    boolean aslant = b % s.w != top[1] % s.w && b / s.w != top[1] / s.w;
                    queue.add(new int[] {top[0] + (aslant ? 14 : 10), b});
                }
            }
        }
        return far.getOrDefault(to, -1);
    }

    boolean isDoor(int k) {
        return k >= 0 && k < s.doors.size();
    }

    boolean twoDoors(int a, int b) {
        return isDoor(a) && isDoor(b) && a != b;
    }

    boolean hasWalker(int c) {
        return s.walkers.stream().anyMatch(a -> a.cell == c);
    }

    List<Integer> taken() {
        List<Integer> t = tape;
        tape = new ArrayList<>();
        return t;
    }

    // ---- the face

    int feed(int a, int b, int c, int d, int e) {
        if (tape.size() + 20 > 440) {
            return -1;
        }
        for (int n : new int[] {a, b, c, d, e}) {
            for (int shift = 24; shift >= 0; shift -= 8) {
                tape.add(n >> shift & 255);
            }
        }
        return tape.size();
    }

    boolean end(int n) {
        if (n < 0 || n > tape.size()) {
            return false;
        }
        tape = new ArrayList<>(tape.subList(0, n));
        return true;
    }

    boolean park(int w, int h) {
        List<Integer> t = taken();
        if (w < 4 || w > 16 || h < 4 || h > 16 || t.size() != w * h) {
            return false;
        }
        if (t.stream().anyMatch(b -> b % 8 == 7)) {
            return false;
        }
        s = new State(w, h);
        for (int c = 0; c < w * h; c++) {
            s.kind[c] = t.get(c) % 8;
            s.sign[c] = t.get(c) / 8 % 2 == 1;
            s.height[c] = t.get(c) / 16;
        }
        return true;
    }

    int door(int c) {
        if (s.doors.size() == 9 || !s.isCell(c) || !s.open(c) || s.doors.contains(c)) {
            return -1;
        }
        s.doors.add(c);
        return s.doors.size() - 1;
    }

    String text() {
        StringBuilder b = new StringBuilder();
        for (int x : taken()) {
            b.append((char) x);
        }
        return b.toString();
    }

    int law() {
        try {
            law = new Parser(text(), true).script();
            faultKind = 0;
            return law.lines.size();
        } catch (Fault f) {
            faultKind = f.kind;
            return -1 - f.place;
        }
    }

    int habit(int k) {
        String text = text();
        if (k < 0 || k > 5) {
            return -1000;
        }
        try {
            habits[k] = new Parser(text, false).script();
            faultKind = 0;
            return habits[k].lines.size();
        } catch (Fault f) {
            faultKind = f.kind;
            return -1 - f.place;
        }
    }

    int fault() {
        return faultKind;
    }

    int wish(int from, int to, int habit, int every, int first) {
        if (s.wishes.size() == 24 || !twoDoors(from, to) || habit < 0 || habit > 5
            || every < 1 || every > 200 || first < 0 || first > 60000) {
            return -1;
        }
        Wish x = new Wish();
        x.number = s.wishes.size();
        x.from = from;
        x.to = to;
        x.habit = habit;
        x.every = every;
        x.first = first;
        s.wishes.add(x);
        return x.number;
    }

    boolean isWish(int k) {
        return k >= 0 && k < s.wishes.size() && !s.wishes.get(k).dropped;
    }

    boolean drop(int k) {
        if (!isWish(k)) {
            return false;
        }
        s.wishes.get(k).dropped = true;
        return true;
    }

    int run(int n) {
        if (n < 1 || n > 400 || s.tick + n > 60000) {
            return -1;
        }
        int before = s.arrived;
        for (int i = 0; i < n; i++) {
            tick(s);
        }
        return s.arrived - before;
    }

    int week() {
        weekEnds(s);
        return net();
    }

    boolean rain(int n) {
        if (n < 1 || n > 200) {
            return false;
        }
        for (int c = 0; c < s.w * s.h; c++) {
            if (s.kind[c] <= 2) {
                s.wet[c] = Math.min(200, s.wet[c] + n);
            }
        }
        return true;
    }

    void snow() {
        Arrays.fill(s.snow, 0);
    }

    boolean lay(int c, int kind) {
        if (!s.isCell(c) || kind < 0 || kind > 6) {
            return false;
        }
        if ((kind == 3 || kind == 6) && (s.doors.contains(c) || hasWalker(c))) {
            return false;
        }
        layIn(s, c, kind);
        return true;
    }

    static void layIn(State st, int c, int kind) {
        st.kind[c] = kind;
        if (kind != 0 && kind != 2) {
            st.wear[c] = 0;
        }
    }

    int cell(int c, int what) {
        if (!s.isCell(c) || what < 0 || what > 8) {
            throw new NoSuchElementException();
        }
        return new int[] {s.kind[c], s.sign[c] ? 1 : 0, s.height[c], s.wear[c], s.wet[c], s.trod[c], s.snow[c],
            worn(s, c) ? 1 : 0, muddy(s, c) ? 1 : 0}[what];
    }

    int walker(int k, int what) {
        if (k < 0 || k >= s.walkers.size() || what < 0 || what > 2) {
            return -1;
        }
        Walker a = s.walkers.get(k);
        return what == 0 ? a.cell : what == 1 ? a.wish.number : a.ticks;
    }

    int net() {
        return netOf(s).size();
    }

    int pieces() {
        Set<Integer> left = netOf(s);
        int n = 0;
        while (!left.isEmpty()) {
            n++;
            ArrayDeque<Integer> queue = new ArrayDeque<>();
            queue.add(left.iterator().next());
            left.remove(queue.peek());
            while (!queue.isEmpty()) {
                for (int b : besides(queue.poll())) {
                    if (left.remove(b)) {
                        queue.add(b);
                    }
                }
            }
        }
        return n;
    }

    int rests(int weeks, int ticks) {
        if (weeks < 1 || weeks > 40 || ticks < 1 || ticks > 200) {
            return -2;
        }
        State st = s.copy();
        for (int n = 1; n <= weeks; n++) {
            Set<Integer> ahead = netOf(st);
            weekOf(st, ticks);
            if (netOf(st).equals(ahead)) {
                return n;
            }
        }
        return -1;
    }

    /** By sets of DOORS that are joined, a CELL at a time, with a queue by cost. */
    int least() {
        List<Integer> t = taken();
        if (t.size() < 2 || t.size() > 6 || new HashSet<>(t).size() != t.size() || !t.stream().allMatch(this::isDoor)) {
            return -2;
        }
        int k = t.size();
        int n = s.w * s.h;
        int[][] cost = new int[1 << k][n];
        boolean[][] final_ = new boolean[1 << k][n];
        for (int[] r : cost) {
            Arrays.fill(r, 1 << 28);
        }
        PriorityQueue<int[]> queue = new PriorityQueue<>((a, b) -> a[0] - b[0]);
        for (int i = 0; i < k; i++) {
            int c = s.doors.get(t.get(i));
            cost[1 << i][c] = price(c);
            queue.add(new int[] {price(c), 1 << i, c});
        }
        while (!queue.isEmpty()) {
            int[] top = queue.poll();
            int set = top[1];
            int c = top[2];
            if (final_[set][c]) {
                continue;
            }
            final_[set][c] = true;
            if (set == (1 << k) - 1) {
                return top[0];
            }
            for (int b : besides(c)) {
                if (s.open(b) && top[0] + price(b) < cost[set][b]) {
                    cost[set][b] = top[0] + price(b);
                    queue.add(new int[] {cost[set][b], set, b});
                }
            }
            for (int other = 1; other < 1 << k; other++) {
                if ((other & set) == 0 && final_[other][c]) {
                    int both = top[0] + cost[other][c] - price(c);
                    if (both < cost[set | other][c]) {
                        cost[set | other][c] = both;
                        queue.add(new int[] {both, set | other, c});
                    }
                }
            }
        }
        return -1;
    }

    int price(int c) {
        return s.kind[c] == 0 || s.kind[c] == 2 ? 21 : 1;
    }

    int longer(int a, int b) {
        if (!twoDoors(a, b)) {
            return -2;
        }
        int from = s.doors.get(a);
        int to = s.doors.get(b);
        int along = shortest(from, to, c -> c == from || c == to || worn(s, c) || Set.of(1, 4, 5).contains(s.kind[c]));
        int over = shortest(from, to, c -> s.open(c));
        return along < 0 ? -1 : 100 * along / over;
    }

    int turns(int habit, int weeks, int ticks, int most) {
        if (habit < 0 || habit > 5 || weeks < 1 || weeks > 4 || ticks < 1 || ticks > 100) {
            return -2;
        }
        for (Line l : habits[habit].lines) {
            if (l.word.equals("weigh") && l.measure.equals("line")) {
                int told = l.number;
                int answer = -1;
                for (int n = 9; n >= 0; n--) {
                    l.number = n;
                    State st = s.copy();
                    for (int i = 0; i < weeks; i++) {
                        weekOf(st, ticks);
                    }
                    if (netOf(st).size() <= most) {
                        answer = n;
                    }
                }
                l.number = told;
                return answer;
            }
        }
        return -1;
    }

    /** PAVED, TOO SOON, MISSED behind w of so many WEEKS. */
    int[] pavedBehind(int w, int weeks, int ticks) {
        State st = s.copy();
        Set<Integer> then = Set.of();
        for (int i = 1; i <= weeks; i++) {
            weekOf(st, ticks);
            if (i == w) {
                then = netOf(st);
            }
        }
        Set<Integer> last = netOf(st);
        Set<Integer> soon = new HashSet<>(then);
        soon.removeAll(last);
        Set<Integer> missed = new HashSet<>(last);
        missed.removeAll(then);
        return new int[] {then.size(), soon.size(), missed.size()};
    }

    int paved(int w, int weeks, int ticks, int what) {
        if (weeks < 1 || weeks > 20 || ticks < 1 || ticks > 200 || w < 1 || w > weeks || what < 0 || what > 2) {
            return -1;
        }
        return pavedBehind(w, weeks, ticks)[what];
    }

    int wait(int weeks, int ticks) {
        if (weeks < 1 || weeks > 20 || ticks < 1 || ticks > 200) {
            return -1;
        }
        int best = 0;
        int least = Integer.MAX_VALUE;
        for (int w = 1; w <= weeks; w++) {
            int[] p = pavedBehind(w, weeks, ticks);
            if (p[1] + p[2] + w < least) {
                least = p[1] + p[2] + w;
                best = w;
            }
        }
        return best;
    }

    int fences(int c, int ticks) {
        List<Integer> t = taken();
        if (!s.isCell(c) || ticks < 1 || ticks > 100 || t.isEmpty() || t.size() > 12) {
            return -2;
        }
        for (int x : t) {
            if (!s.isCell(x) || !s.open(x) || s.doors.contains(x) || hasWalker(x)) {
                return -2;
            }
        }
        List<List<Integer>> choices = new ArrayList<>();
        choices.add(List.of());
        for (int x : t) {
            choices.add(List.of(x));
        }
        for (int i = 0; i < t.size(); i++) {
            for (int j = i + 1; j < t.size(); j++) {
                choices.add(List.of(t.get(i), t.get(j)));
            }
        }
        for (List<Integer> choice : choices) {
            State st = s.copy();
            choice.forEach(x -> layIn(st, x, 6));
            boolean trodden = false;
            for (int i = 0; i < ticks; i++) {
                trodden |= tick(st).contains(c);
            }
            if (!trodden) {
                latestFences = choice;
                return choice.size();
            }
        }
        return -1;
    }

    int fenceAt(int k) {
        return k >= 0 && k < latestFences.size() ? latestFences.get(k) : -1;
    }

    int lasts(int k, int c, int weeks, int ticks) {
        if (!isWish(k) || !s.isCell(c) || weeks < 1 || weeks > 40 || ticks < 1 || ticks > 200) {
            return -2;
        }
        if (!worn(s, c)) {
            return 0;
        }
        State st = s.copy();
        st.wishes.get(k).dropped = true;
        for (int n = 1; n <= weeks; n++) {
            weekOf(st, ticks);
            if (!worn(st, c)) {
                return n;
            }
        }
        return -1;
    }

    int way(int from, int to, int habit) {
        if (!twoDoors(from, to) || habit < 0 || habit > 5) {
            return -2;
        }
        latestWay = walkWay(from, to, habit);
        return arrives(latestWay, to) ? latestWay.size() - 1 : -1;
    }

    int wayAt(int k) {
        return k >= 0 && k < latestWay.size() ? latestWay.get(k) : -1;
    }

    int read() {
        List<Integer> t = taken();
        if (t.isEmpty() || t.size() > 15 || t.size() % 3 != 0) {
            return -1;
        }
        int n = t.size() / 3;
        int[][] steps = new int[n][s.w * s.h];
        for (int i = 0; i < n; i++) {
            int from = t.get(3 * i);
            int to = t.get(3 * i + 1);
            if (!twoDoors(from, to) || t.get(3 * i + 2) > 5) {
                return -1;
            }
            List<Integer> way = walkWay(from, to, t.get(3 * i + 2));
            if (!arrives(way, to)) {
                return -1;
            }
            way.subList(1, way.size()).forEach(new StepCount(steps[i])::add);
        }
        int all = (int) Math.pow(10, n);
        int found = 0;
        int[][] span = new int[n][];
        for (int code = 0; code < all; code++) {
            int[] each = new int[n];
            for (int i = 0, left = code; i < n; i++, left /= 10) {
                each[i] = left % 10;
            }
            boolean same = true;
            for (int c = 0; c < s.w * s.h && same; c++) {
                int sum = 0;
                for (int i = 0; i < n; i++) {
                    sum += each[i] * steps[i][c];
                }
                same = sum == s.snow[c];
            }
            if (same) {
                found++;
                for (int i = 0; i < n; i++) {
                    span[i] = span[i] == null ? new int[] {each[i], each[i]}
                        : new int[] {Math.min(span[i][0], each[i]), Math.max(span[i][1], each[i])};
                }
            }
        }
        if (found > 0) {
            latestReads = span;
        }
        return found;
    }

    static final class StepCount {
        final int[] steps;

        StepCount(int[] steps) {
            this.steps = steps;
        }

        void add(int c) {
            steps[c]++;
        }
    }

    int reads(int i, int what) {
        return i >= 0 && i < latestReads.length && (what == 0 || what == 1) ? latestReads[i][what] : -1;
    }

    int fits(int from, int to) {
        List<Integer> t = taken();
        if (t.isEmpty() || t.size() > 200 || !twoDoors(from, to)) {
            return -1;
        }
        int bits = 0;
        for (int h = 0; h < 6; h++) {
            List<Integer> way = walkWay(from, to, h);
            if (way.subList(1, way.size()).equals(t)) {
                bits |= 1 << h;
            }
        }
        return bits;
    }

    boolean image(int k) {
        if (k < 0 || k > 2) {
            return false;
        }
        images[k] = s.copy();
        return true;
    }

    boolean restore(int k) {
        if (k < 0 || k > 2 || images[k] == null) {
            return false;
        }
        s = images[k].copy();
        return true;
    }

    int count(int what) {
        switch (what) {
            case 0: return s.w;
            case 1: return s.h;
            case 2: return s.doors.size();
            case 3: return (int) s.wishes.stream().filter(x -> !x.dropped).count();
            case 4: return s.walkers.size();
            case 5: return s.tick;
            case 6: return s.arrived;
            case 7: return s.lost;
            case 8: return s.away;
            case 9: return tape.size();
            default: return -1;
        }
    }
}
