import java.util.Map;
import java.util.TreeMap;

/** Long runs of calls made from a fixed row of numbers, each answer compared with NaivePark's. */
public final class FuzzTest {
    private long state;
    /** What a run is most about: 0 all, 1 the SNOW, 2 fences, 3 texts, 4 paving and what lasts. */
    private int mode;
    private final Map<String, int[]> seen = new TreeMap<>();

    public static void main(String[] args) {
        int runs = args.length > 0 ? Integer.parseInt(args[0]) : 220;
        long from = args.length > 1 ? Long.parseLong(args[1]) : 1;
        FuzzTest test = new FuzzTest();
        int wrong = 0;
        for (long seed = from; seed < from + runs; seed++) {
            wrong += test.oneRun(seed);
        }
        if (args.length > 2) {
            test.seen.forEach((k, v) -> System.out.println(k + " " + v[0]));
        }
        System.out.println("fuzz: " + runs + " runs, " + wrong + " with wrong answers");
        System.exit(wrong == 0 ? 0 : 1);
    }

    private int upTo(int n) {
        state = state * 6364136223846793005L + 1442695040888963407L;
        return (int) ((state >>> 33) % n);
    }

    private int between(int low, int high) {
        return low + upTo(high - low + 1);
    }

    private boolean chance(int percent) {
        return upTo(100) < percent;
    }

    private String oneOf(String... words) {
        return words[upTo(words.length)];
    }

    /** Now and then a number that is not as told. */
    private int odd(int n) {
        if (!chance(3)) {
            return n;
        }
        int[] odd = {-1, 0, -2, 5, 6, 9, 16, 24, 41, 60, 99, 100, 101, 200, 201, 256, 400, 401, 60001,
            Integer.MAX_VALUE, Integer.MIN_VALUE, 1 << 30};
        return odd[upTo(odd.length)];
    }

    private int oneRun(long seed) {
        state = seed * 7919 + 17;
        mode = upTo(5);
        Twin t = new Twin("seed " + seed);
        try {
            setUp(t);
            while (t.calls.size() < 500 && t.wrong == 0) {
                something(t);
            }
        } catch (RuntimeException | StackOverflowError e) {
            System.out.println("seed " + seed + ": call behind " + t.calls.size() + " threw " + e);
            StackTraceElement[] trace = e.getStackTrace();
            for (int i = 0; i < Math.min(4, trace.length); i++) {
                System.out.println("    " + trace[i]);
            }
            return 1;
        }
        return t.wrong > 0 ? 1 : 0;
    }

    private long call(Twin t, String m, int... a) {
        long answer = t.call(m, a);
        String key = m + (answer == Twin.THROWS ? " throws" : answer < -2 ? " <-2" : answer > 3 ? " >3" : " " + answer);
        seen.computeIfAbsent(key, k -> new int[1])[0]++;
        return answer;
    }

    private void setUp(Twin t) {
        if (chance(95)) {
            newPark(t);
        }
        newLaw(t);
        for (int h = 0; h < 6; h++) {
            if (chance(60)) {
                newHabit(t, h);
            }
        }
        int n = mode == 2 ? between(0, 2) : mode == 1 ? 0 : between(0, 10);
        for (int i = 0; i < n; i++) {
            newWish(t);
        }
    }

    private void newPark(Twin t) {
        int w = chance(50) ? between(4, 7) : between(4, 16);
        int h = chance(50) ? between(4, 7) : between(4, 16);
        int walls = upTo(4) * 8;
        boolean hilly = chance(50);
        boolean signs = chance(50);
        StringBuilder b = new StringBuilder();
        for (int i = 0; i < w * h; i++) {
            int kind = chance(55) ? 0 : chance(walls) ? (chance(50) ? 3 : 6) : new int[] {0, 1, 2, 4, 5}[upTo(5)];
            b.append((char) (kind + (signs && chance(20) ? 8 : 0) + (hilly ? 16 * upTo(16) : 0)));
        }
        if (chance(5)) {
            b.setCharAt(upTo(b.length()), (char) 7);
        }
        if (chance(3)) {
            b.append('\0');
        }
        t.tape(b.toString());
        call(t, "park", odd(w), odd(h));
        call(t, "count", 9);
        int doors = between(2, 7);
        for (int i = 0; i < doors; i++) {
            call(t, "door", odd(cell(t)));
        }
    }

    private int cell(Twin t) {
        return upTo(t.naive.s.w * t.naive.s.h);
    }

    private int door(Twin t) {
        return odd(upTo(Math.max(1, t.naive.s.doors.size())));
    }

    private void newLaw(Twin t) {
        StringBuilder b = new StringBuilder();
        if (chance(80)) {
            b.append("line ").append(between(chance(95) ? 1 : 0, chance(80) ? 40 : 120)).append(gap()).append(";");
        }
        int n = upTo(4);
        for (int i = 0; i < n; i++) {
            b.append(gap()).append(oneOf("wear", "grow")).append(' ').append(upTo(chance(95) ? 30 : 1010))
                .append(condPerhaps()).append(";");
        }
        if (chance(30)) {
            b.append("mud ").append(upTo(60)).append(";");
        }
        if (chance(30)) {
            b.append("dry ").append(upTo(60)).append(";");
        }
        t.tape(spoilt(b.toString()));
        call(t, "law");
        call(t, "fault");
    }

    private void newHabit(Twin t, int h) {
        StringBuilder b = new StringBuilder();
        int n = upTo(6);
        boolean sight = false;
        for (int i = 0; i < n; i++) {
            b.append(gap());
            if (chance(10) && !sight) {
                b.append("sight ").append(upTo(chance(95) ? 10 : 30));
                sight = true;
            } else if (chance(12)) {
                b.append("never ").append(cond(0));
            } else {
                b.append("weigh ").append(oneOf("green", "wet", "climb", "crowd", "turn", "come", "line", "line"))
                    .append(' ').append(upTo(chance(70) ? 12 : 102)).append(condPerhaps());
            }
            b.append(gap()).append(';');
        }
        t.tape(spoilt(b.toString()));
        call(t, "habit", odd(h));
        call(t, "fault");
    }

    private String gap() {
        return oneOf("", " ", "\n", "  ", " \n ");
    }

    private String condPerhaps() {
        return chance(40) ? " if " + cond(0) : "";
    }

    private String cond(int deep) {
        StringBuilder b = new StringBuilder(one(deep));
        while (chance(mode == 3 ? 45 : 25)) {
            b.append(' ').append(oneOf("and", "or")).append(' ').append(one(deep));
        }
        return b.toString();
    }

    private String one(int deep) {
        if (deep < 11 && chance(mode == 3 && deep > 2 ? 60 : 18)) {
            return "not " + one(deep + 1);
        }
        if (deep < 11 && chance(15)) {
            return "(" + gap() + cond(deep + 1) + gap() + ")";
        }
        if (chance(55)) {
            return oneOf("grass", "gravel", "bed", "paved", "steps", "sign", "muddy", "worn");
        }
        String what = oneOf("wear", "wet", "height", "trod");
        int most = what.equals("height") ? 16 : what.equals("trod") ? 6 : what.equals("wet") ? 100 : 60;
        return what + gap() + oneOf("<", "=", ">") + gap() + upTo(most);
    }

    /** Most texts stay as they are. */
    private String spoilt(String text) {
        if (!chance(25)) {
            return text.length() <= 400 ? text : text.substring(0, between(390, Math.min(440, text.length())));
        }
        StringBuilder b = new StringBuilder(text);
        int n = between(1, 2);
        for (int i = 0; i < n; i++) {
            int at = upTo(b.length() + 1);
            switch (upTo(6)) {
                case 0:
                    b.insert(at, oneOf(";", "(", ")", "<", "x", "0", "9", "if", " not ", "_", "\t", " 1000 ", "abcdefg", "or"));
                    break;
                case 1:
                    if (at < b.length()) {
                        b.deleteCharAt(at);
                    }
                    break;
                case 2:
                    if (at < b.length()) {
                        b.setCharAt(at, (char) upTo(256));
                    }
                    break;
                case 3:
                    b.append(b);
                    break;
                case 4:
                    b.append(" ".repeat(upTo(430)));
                    break;
                default:
                    b.setLength(at);
                    break;
            }
        }
        if (chance(mode == 3 ? 50 : 20)) {
            for (int i = 0; i < 20 && b.length() < 390; i++) {
                b.append(oneOf(b.toString(), "wear 1 if " + cond(4) + ";", "weigh turn 2 if " + cond(3) + ";"));
            }
        }
        if (b.length() > 440) {
            b.setLength(between(395, 440));
        }
        return b.toString();
    }

    private void newWish(Twin t) {
        call(t, "wish", door(t), door(t), odd(upTo(6)), odd(between(1, chance(50) ? 6 : 40)),
            odd(t.naive.s.tick + upTo(30)));
    }

    private void something(Twin t) {
        int[][] most = {{}, {26, 27, 24}, {22, 22, 0}, {34, 35}, {0, 20, 21, 23, 14, 19, 5}};
        boolean often = mode > 0 && chance(30);
        switch (often ? most[mode][upTo(most[mode].length)] : upTo(40)) {
            case 0: case 1: case 2: case 3:
                call(t, "run", odd(between(1, chance(90) ? 30 : 260)));
                break;
            case 4: case 5:
                call(t, "week");
                break;
            case 6:
                call(t, "rain", odd(between(1, 90)));
                break;
            case 7:
                call(t, "snow");
                break;
            case 8: case 9:
                call(t, "lay", odd(cell(t)), odd(upTo(7)));
                break;
            case 10: case 11: case 12:
                lookAround(t);
                break;
            case 13:
                call(t, "net");
                call(t, "pieces");
                break;
            case 14:
                call(t, "rests", odd(between(1, 8)), odd(between(1, 30)));
                break;
            case 15: case 16:
                doorTape(t);
                call(t, "least");
                break;
            case 17: case 18:
                call(t, "longer", door(t), door(t));
                break;
            case 19:
                turnOnes(t);
                break;
            case 20:
                int weeks = between(1, 5);
                call(t, "paved", odd(between(1, weeks)), odd(weeks), odd(between(1, 20)), odd(upTo(3)));
                break;
            case 21:
                call(t, "wait", odd(between(1, 5)), odd(between(1, 20)));
                break;
            case 22:
                fenceIn(t);
                break;
            case 23:
                call(t, "lasts", odd(upTo(Math.max(1, t.naive.s.wishes.size()))), odd(wornCell(t)),
                    odd(between(1, 8)), odd(between(1, 20)));
                break;
            case 24: case 25:
                call(t, "way", door(t), door(t), odd(upTo(6)));
                call(t, "wayAt", odd(upTo(8)));
                call(t, "wayAt", odd(upTo(202)));
                break;
            case 26: case 27:
                if (mode == 1 || chance(10)) {
                    readSnow(t);
                }
                break;
            case 28: case 29:
                fit(t);
                break;
            case 30:
                call(t, "image", odd(upTo(3)));
                break;
            case 31:
                if (chance(40)) {
                    call(t, "restore", odd(upTo(3)));
                }
                break;
            case 32:
                newWish(t);
                break;
            case 33:
                call(t, "drop", chance(70) ? -1 : odd(upTo(Math.max(1, t.naive.s.wishes.size()))));
                break;
            case 34:
                newHabit(t, upTo(6));
                break;
            case 35:
                if (chance(mode == 3 ? 90 : 30)) {
                    newLaw(t);
                }
                break;
            case 36:
                if (chance(12)) {
                    newPark(t);
                    for (int i = 0; i < 4; i++) {
                        newWish(t);
                    }
                } else {
                    call(t, "door", odd(cell(t)));
                }
                break;
            case 37:
                call(t, "feed", upTo(1 << 30), -upTo(1 << 30), 0, upTo(256), upTo(7) << 24);
                call(t, "end", odd(upTo(60)));
                break;
            default:
                lookAround(t);
                break;
        }
    }

    private void lookAround(Twin t) {
        for (int i = 0; i < 4; i++) {
            call(t, "cell", odd(cell(t)), odd(upTo(9)));
        }
        for (int i = 0; i < 2; i++) {
            call(t, "walker", odd(upTo(Math.max(1, t.naive.s.walkers.size() + 1))), odd(upTo(4)));
        }
        call(t, "count", odd(upTo(11)));
    }

    private void bytes(Twin t, int... b) {
        StringBuilder s = new StringBuilder();
        for (int x : b) {
            s.append((char) (x & 255));
        }
        t.tape(s.toString());
    }

    private void doorTape(Twin t) {
        int n = Math.min(chance(90) ? between(2, 6) : upTo(9), Math.max(2, t.naive.s.doors.size()));
        int[] b = new int[n];
        for (int i = 0; i < n; i++) {
            b[i] = i;
        }
        for (int i = n - 1; i > 0; i--) {
            int j = upTo(i + 1);
            int x = b[i];
            b[i] = b[j];
            b[j] = x;
        }
        if (chance(5) && n > 0) {
            b[0] = odd(b[n - 1]);
        }
        bytes(t, b);
    }

    private int wornCell(Twin t) {
        Integer[] net = t.naive.netOf(t.naive.s).toArray(new Integer[0]);
        return net.length > 0 && chance(85) ? net[upTo(net.length)] : cell(t);
    }

    private void fenceIn(Twin t) {
        int from = door(t);
        int to = door(t);
        int habit = upTo(6);
        for (NaivePark.Wish w : t.naive.s.wishes) {
            if (!w.dropped) {
                from = w.from;
                to = w.to;
                habit = w.habit;
            }
        }
        if (call(t, "way", from, to, habit) == -2) {
            return;
        }
        int n = chance(95) ? between(1, 5) : upTo(14);
        int[] b = new int[n];
        for (int i = 0; i < n; i++) {
            b[i] = cell(t);
            for (int tries = 0; tries < 30 && !mayFence(t, b[i]) && !chance(1); tries++) {
                b[i] = chance(50) ? cell(t) : t.naive.latestWay.get(upTo(t.naive.latestWay.size()));
            }
        }
        int c = t.naive.latestWay.get(upTo(t.naive.latestWay.size()));
        bytes(t, b);
        call(t, "fences", odd(c), odd(between(1, 25)));
        for (int i = -1; i < 3; i++) {
            call(t, "fenceAt", i);
        }
    }

    private void turnOnes(Twin t) {
        int habit = upTo(6);
        for (int k = 0; k < 6; k++) {
            for (NaivePark.Line l : t.naive.habits[k].lines) {
                habit = "line".equals(l.measure) && chance(60) ? k : habit;
            }
        }
        int most = t.naive.netOf(t.naive.s).size();
        call(t, "turns", odd(habit), odd(between(1, 3)), odd(between(1, 25)), odd(most + between(-4, 6)));
    }

    private boolean mayFence(Twin t, int c) {
        return t.naive.s.open(c) && !t.naive.s.doors.contains(c) && !t.naive.hasWalker(c);
    }

    /** Now and then the SNOW tells of some WAYS alone, on ground that nobody wears. */
    private void readSnow(Twin t) {
        int n = chance(80) ? between(1, 3) : between(1, 5);
        int[] b = new int[3 * n];
        for (int i = 0; i < n; i++) {
            b[3 * i] = upTo(Math.max(1, t.naive.s.doors.size()));
            b[3 * i + 1] = upTo(Math.max(1, t.naive.s.doors.size()));
            b[3 * i + 2] = upTo(6);
            if (i > 0 && chance(30)) {
                System.arraycopy(b, 3 * i - 3, b, 3 * i, 3);
            }
        }
        if (chance(70)) {
            for (int k = 0; k < t.naive.s.wishes.size() && k < 6; k++) {
                call(t, "drop", k);
            }
            t.tape("wear 0;");
            call(t, "law");
            call(t, "run", 200);
            call(t, "snow");
            for (int i = 0; i < n; i++) {
                if (chance(80)) {
                    long k = call(t, "wish", b[3 * i], b[3 * i + 1], b[3 * i + 2], between(20, 60), t.naive.s.tick);
                    call(t, "run", between(1, 80));
                    call(t, "drop", (int) k);
                    call(t, "run", 40);
                }
            }
        }
        bytes(t, b);
        if (chance(4)) {
            call(t, "end", upTo(3 * n));
        }
        call(t, "read");
        for (int i = 0; i < n; i++) {
            call(t, "reads", odd(i), odd(0));
            call(t, "reads", odd(i), odd(1));
        }
    }

    private void fit(Twin t) {
        int from = door(t);
        int to = door(t);
        if (call(t, "way", from, to, upTo(6)) == -2) {
            call(t, "fits", from, to);
            return;
        }
        int n = t.naive.latestWay.size() - 1;
        int[] b = new int[n];
        for (int i = 0; i < n; i++) {
            b[i] = t.naive.latestWay.get(i + 1);
        }
        if (chance(10) && n > 0) {
            b[upTo(n)] = cell(t);
        }
        bytes(t, b);
        call(t, "fits", from, to);
    }
}
