import java.util.Arrays;

/** Terms 3 and 4 and the promises: every number that bounds a call, from both its sides, and what a call leaves as it is. */
public final class EdgesTest {
    private static final int[] FAR = {Integer.MIN_VALUE, Integer.MIN_VALUE + 1, -1000, -2, -1, 1000, 60001, Integer.MAX_VALUE - 1,
        Integer.MAX_VALUE};

    public static void main(String[] args) {
        tapes();
        tapeIsEmptyBehind();
        cutOff();
        parks();
        shapes();
        doors();
        texts();
        faults();
        wishes();
        drops();
        runs();
        weeksAndRain();
        lays();
        cells();
        walkers();
        pieces();
        rests();
        restsAtMost();
        least();
        longer();
        turns();
        turnsTakeTheFirst();
        paved();
        fences();
        fencesInTheirOrder();
        fenceAt();
        lasts();
        ways();
        read();
        reads();
        fits();
        images();
        fullImages();
        casesLeaveNothing();
        behindACase();
        oddArguments();
        System.exit(Check.end("edges"));
    }

    private static void due(String what, long got, long want) {
        Check.due(what, got, want);
    }

    private static void due(String what, boolean got, boolean want) {
        Check.due(what, got, want);
    }

    private static GrassPark lawn(int w, int h, int... doors) {
        GrassPark p = new GrassPark();
        Check.bytes(p, new int[w * h]);
        due("a lawn", p.park(w, h), true);
        for (int k = 0; k < doors.length; k++) {
            due("a door", p.door(doors[k]), k);
        }
        return p;
    }

    /** All that can be asked without changing anything. */
    private static String all(GrassPark p) {
        StringBuilder b = new StringBuilder();
        for (int what = 0; what <= 9; what++) {
            b.append(p.count(what)).append(' ');
        }
        b.append(p.fault()).append(' ').append(p.net()).append(' ').append(p.pieces()).append('\n');
        for (int c = 0; c < p.count(0) * p.count(1); c++) {
            for (int what = 0; what < 9; what++) {
                b.append(p.cell(c, what)).append(' ');
            }
        }
        b.append('\n');
        for (int k = 0; k < p.count(4); k++) {
            b.append(p.walker(k, 0)).append(' ').append(p.walker(k, 1)).append(' ').append(p.walker(k, 2)).append(' ');
        }
        for (int k = 0; k <= 200; k++) {
            b.append(p.wayAt(k)).append(' ');
        }
        b.append(p.fenceAt(0)).append(' ').append(p.fenceAt(1)).append(' ');
        for (int i = 0; i < 5; i++) {
            b.append(p.reads(i, 0)).append(' ').append(p.reads(i, 1)).append(' ');
        }
        return b.toString();
    }

    // ---- promises 2 to 8: the tape and what reads it

    private static void tapes() {
        for (int rest = 0; rest <= 440; rest++) {
            GrassPark p = new GrassPark();
            for (int i = 0; i < 22; i++) {
                p.feed(0, 0, 0, 0, 0);
            }
            due("end " + rest, p.end(rest), true);
            due("feed behind " + rest, p.feed(-1, -1, -1, -1, -1), rest <= 420 ? rest + 20 : -1);
            due("tape behind " + rest, p.count(9), rest <= 420 ? rest + 20 : rest);
        }
        GrassPark p = new GrassPark();
        p.feed(0, 0, 0, 0, 0);
        for (int n : new int[] {21, 22, 440, 441, -1, -20, Integer.MIN_VALUE, Integer.MAX_VALUE}) {
            due("end " + n, p.end(n), false);
            due("the tape stays", p.count(9), 20);
        }
        due("end at all", p.end(20), true);
        due("end at none", p.end(0), true);
        due("end at one of none", p.end(1), false);
        // what was cut off is gone, what comes is behind what is left
        p.feed(0x01010101, 0x01010101, 0x01010101, 0x01010101, 0x01010101);
        p.end(3);
        p.feed(0x02000000, 0, 0, 0x00000204, 0);
        p.end(16);
        due("a park of both", p.park(4, 4), true);
        int[] kinds = {1, 1, 1, 2, 0, 0, 0, 0, 0, 0, 0, 0, 0, 0, 0, 0};
        for (int c = 0; c < 16; c++) {
            due("a park of both: " + c, p.cell(c, 0), kinds[c]);
        }
    }

    private static void tapeIsEmptyBehind() {
        String[] calls = {"park", "law", "habit", "habit of no such k", "least", "fences", "read", "fits"};
        String[] tapes = {"", "\0", "\0\1", "wear 5;", "x", "\7".repeat(16), "\0".repeat(16), " ".repeat(440)};
        for (int call = 0; call < calls.length; call++) {
            for (int told = 0; told < tapes.length; told++) {
                GrassPark p = told % 2 == 0 ? new GrassPark() : lawn(4, 4, 0, 3);
                Check.tape(p, tapes[told]);
                read(p, call);
                due("tape behind " + calls[call] + ", " + told, p.count(9), 0);
                due("the next feed behind " + calls[call] + ", " + told, p.feed(1, 2, 3, 4, 5), 20);
            }
        }
    }

    private static void read(GrassPark p, int call) {
        switch (call) {
            case 0: p.park(4, 4); break;
            case 1: p.law(); break;
            case 2: p.habit(0); break;
            case 3: p.habit(6); break;
            case 4: p.least(); break;
            case 5: p.fences(9, 1); break;
            case 6: p.read(); break;
            default: p.fits(0, 1); break;
        }
    }

    /** What end() cut off stays out of all that reads the tape, though it was there. */
    private static void cutOff() {
        GrassPark p = lawn(5, 4, 0, 4, 19);
        p.wish(0, 1, 0, 200, 0);
        cut(p, "wear 55;", 6);
        due("law of what is left", p.law(), -7);
        cut(p, "wear 5;wear", 7);
        due("law of what is left", p.law(), 1);
        cut(p, "never bedding;", 9);
        due("habit of what is left", p.habit(0), -10);
        cut(p, "never bed; ;", 10);
        due("habit of what is left", p.habit(0), 1);
        cut(p, "\0\1\2", 2);
        due("least of what is left", p.least(), 21 * 5);
        cut(p, "\0\1\1", 2);
        due("least of what is left", p.least(), 21 * 5);
        cut(p, "\20\2\3", 1);
        due("fences of what is left", p.fences(2, 9), -1);
        cut(p, "\20\2\0", 2);
        due("fences of what is left", p.fences(2, 9), 1);
        cut(p, "\21\17\2\3", 2);
        due("fences of what is left", p.fences(2, 9), -1);
        p.run(4);
        cut(p, "\0\1\0\0\1\0", 3);
        due("read of what is left", p.read(), 1);
        due("reads of what is left", p.reads(1, 0), -1);
        cut(p, "\1\2\3\4", 3);
        due("fits of what is left", p.fits(0, 1), 0);
        cut(p, "\1\2\3\4\4", 4);
        due("fits of what is left", p.fits(0, 1), 63);
        cut(p, "\1".repeat(16) + "\7", 16);
        due("park of what is left", p.park(4, 4), true);
    }

    private static void cut(GrassPark p, String bytes, int rest) {
        Check.tape(p, bytes);
        due("the tape of all", p.count(9), bytes.length());
        due("the tape cut", p.end(rest), true);
    }

    /** One object in many shapes: told anew and restored, its rows are as long as they are now. */
    private static void shapes() {
        GrassPark p = new GrassPark();
        int[][] shapes = {{4, 4}, {4, 16}, {4, 5}, {16, 5}, {16, 16}, {5, 16}, {5, 4}, {6, 4}, {6, 15}, {7, 15}};
        for (int i = 0; i < shapes.length; i++) {
            int w = shapes[i][0];
            int h = shapes[i][1];
            Check.bytes(p, new int[w * h]);
            due("a park " + w + " by " + h, p.park(w, h), true);
            p.door(0);
            p.door(w * h - 1);
            p.door(w - 1);
            corners(p, w, h);
            if (i < 3) {
                p.image(i);
            }
        }
        for (int i : new int[] {0, 2, 1, 0, 1, 2}) {
            due("restore", p.restore(i), true);
            corners(p, shapes[i][0], shapes[i][1]);
        }
    }

    private static void corners(GrassPark p, int w, int h) {
        due("from corner to corner", p.way(0, 1, 0), Math.max(w, h) - 1);
        due("back", p.way(1, 0, 0), Math.max(w, h) - 1);
        due("along a row", p.way(0, 2, 0), w - 1);
        due("along a column", p.way(2, 1, 0), h - 1);
        Check.bytes(p, 0, 1);
        due("the least net", p.least(), 21 * Math.max(w, h));
    }

    private static void parks() {
        for (int w = 2; w <= 18; w++) {
            for (int h = 2; h <= 18; h++) {
                GrassPark p = new GrassPark();
                Check.tape(p, "\2".repeat(Math.min(440, w * h)));
                boolean may = w >= 4 && w <= 16 && h >= 4 && h <= 16;
                due("park " + w + " by " + h, p.park(w, h), may);
                due("its w", p.count(0), may ? w : 4);
                due("its h", p.count(1), may ? h : 4);
                due("its last cell", p.cell(p.count(0) * p.count(1) - 1, 0), may ? 2 : 0);
                Check.noCell(p, p.count(0) * p.count(1), 0);
            }
        }
        for (int b = 0; b < 256; b++) {
            GrassPark p = new GrassPark();
            int[] cells = new int[16];
            cells[15] = b;
            Check.bytes(p, cells);
            due("a park with byte " + b, p.park(4, 4), b % 8 != 7);
            due("its kind", p.cell(15, 0), b % 8 == 7 ? 0 : b % 8);
        }
        // the LAW, the HABITS, the images, the latest way, fences and reads are not of THE PARK
        GrassPark p = lawn(4, 4, 0, 3);
        Check.law(p, "wear 3; line 3;");
        Check.habit(p, 2, "never grass;");
        p.image(1);
        p.way(0, 1, 0);
        Check.bytes(p, 0, 1, 0);
        p.read();
        p.wish(0, 1, 0, 1, 0);
        p.run(2);
        Check.bytes(p, 6);
        p.fences(6, 1);
        int fence = p.fenceAt(0);
        Check.bytes(p, new int[20]);
        due("park anew", p.park(5, 4), true);
        due("no wish", p.drop(0), false);
        due("the way stays", p.wayAt(3), 3);
        due("the fences stay", p.fenceAt(0), fence);
        due("the reads stay", p.reads(0, 1), 0);
        due("door 0 anew", p.door(7), 0);
        due("door 1 anew", p.door(9), 1);
        due("wish 0 anew", p.wish(0, 1, 0, 1, 0), 0);
        due("the habit stays", p.way(0, 1, 2), -1);
        p.run(1);
        due("the law stays", p.cell(8, 7), 1);
        due("the image stays", p.restore(1), true);
        due("the image stays", p.count(0), 4);
    }

    private static void doors() {
        GrassPark p = new GrassPark();
        Check.bytes(p, 3, 6, 0, 1, 2, 4, 5, 8, 16, 0, 0, 0, 0, 0, 0, 0);
        p.park(4, 4);
        int[] wants = {-1, -1, 0, 1, 2, 3, 4, 5, 6};
        for (int c = 0; c < 9; c++) {
            due("door of kind " + p.cell(c, 0), p.door(c), wants[c]);
            due("a second time", p.door(c), -1);
        }
        due("the eighth", p.door(15), 7);
        due("behind the last cell", p.door(16), -1);
        due("below", p.door(-1), -1);
        due("count", p.count(2), 8);
        due("the ninth", p.door(14), 8);
        due("a tenth", p.door(13), -1);
        due("count", p.count(2), 9);
        for (int a = 0; a < 9; a++) {
            due("a way from each", p.way(a, (a + 1) % 9, 0) != -2, true);
        }
        due("no door 9", p.way(9, 0, 0), -2);
        due("no door 9", p.way(0, 9, 0), -2);
        // a fence laid makes no door, and one laid away does
        p = new GrassPark();
        p.lay(5, 6);
        due("fenced", p.door(5), -1);
        p.lay(5, 0);
        due("no more", p.door(5), 0);
        p.wish(0, 0, 0, 1, 0);
        p.door(15);
        p.wish(0, 1, 0, 1, 0);
        p.run(1);
        due("a door where a walker is", p.door(10), 2);
    }

    private static void texts() {
        for (int n = 0; n <= 16; n++) {
            GrassPark p = new GrassPark();
            due(n + " lines of a law", Check.law(p, "grow 1 ;".repeat(n)), n);
            due(n + " lines of a habit", Check.habit(p, n % 6, "never bed ;".repeat(n)), n);
        }
        for (int k = -1; k <= 6; k++) {
            GrassPark p = new GrassPark();
            boolean is = k >= 0 && k < 6;
            due("habit " + k, Check.habit(p, k, "never grass;"), is ? 1 : -1000);
            due("habit " + k + " with a fault", Check.habit(p, k, "never grass"), is ? -12 : -1000);
            due("its fault", p.fault(), is ? 1 : 0);
            p.door(0);
            p.door(3);
            for (int h = 0; h < 6; h++) {
                due("habit " + h + " behind habit(" + k + ")", p.way(0, 1, h), h == k ? -1 : 3);
            }
        }
        for (int k : FAR) {
            due("habit " + k, Check.habit(new GrassPark(), k, ""), -1000);
        }
        // each NUMBER at both its ends
        String[] good = {"wear 0;", "wear 999;", "grow 0;", "grow 999;", "line 1;", "line 999;", "mud 0;", "mud 999;", "dry 0;", "dry 999;"};
        for (String text : good) {
            due(text, Check.law(new GrassPark(), text), 1);
            due(text, Check.law(new GrassPark(), text + "wear 1000;"), -1 - text.length() - 5);
        }
        String[] measures = {"green", "wet", "climb", "crowd", "turn", "come", "line"};
        for (String m : measures) {
            String line = "weigh " + m + " ";
            due(line + 0, Check.habit(new GrassPark(), 0, line + "0;"), 1);
            due(line + 99, Check.habit(new GrassPark(), 0, line + "99;"), 1);
            GrassPark p = new GrassPark();
            due(line + 100, Check.habit(p, 0, line + "100;"), -1 - line.length());
            due(line + 100, p.fault(), 2);
            due(line + "twice", Check.habit(p, 0, line + "1;" + line + "2;"), 2);
            due(line + "if", Check.habit(p, 0, line + "1 if sign;"), 1);
        }
        for (int n = 0; n <= 11; n++) {
            GrassPark p = new GrassPark();
            due("sight " + n, Check.habit(p, 0, "sight " + n + ";"), n <= 9 ? 1 : -7);
            due("sight " + n, p.fault(), n <= 9 ? 0 : 2);
        }
        GrassPark p = new GrassPark();
        due("behind a sign any", Check.law(p, "wear 0 if wear > 999 or wet < 000 or height = 500 or trod > 7;"), 1);
    }

    private static void faults() {
        GrassPark p = new GrassPark();
        due("ahead of any", p.fault(), 0);
        String[] bad = {"x", "line 0;", "mud 1; mud 2;", "wear 1 if " + "not ".repeat(10) + "worn;"};
        for (int kind = 1; kind <= 4; kind++) {
            due("a fault", Check.law(p, bad[kind - 1]) < 0, true);
            due("a law's fault", p.fault(), kind);
            due("no such habit", Check.habit(p, 6, bad[4 - kind]), -1000);
            due("it stays", p.fault(), kind);
            due("a good habit", Check.habit(p, 0, ""), 0);
            due("none", p.fault(), 0);
        }
        String[] odd = {"x", "sight 10;", "sight 1; sight 1;", "never " + "not ".repeat(10) + "worn;"};
        for (int kind = 1; kind <= 4; kind++) {
            due("a fault", Check.habit(p, 5, odd[kind - 1]) < 0, true);
            due("a habit's fault", p.fault(), kind);
            due("no such habit", Check.habit(p, -1, ""), -1000);
            due("it stays", p.fault(), kind);
            Check.tape(p, "\0");
            p.park(4, 4);
            due("it stays", p.fault(), kind);
        }
        due("a good law", Check.law(p, "wear 1;"), 1);
        due("none", p.fault(), 0);
        // of one TOKEN the least kind: also where a 17th LINE tells 'line' twice, or a 41st is an eleventh within
        due("17th and told twice", Check.law(p, "line 1;" + "wear 1;".repeat(15) + "line 0;"), -113);
        due("17th and told twice", p.fault(), 3);
        due("17th and no word", Check.law(p, "line 1;" + "wear 1;".repeat(15) + "sight 1;"), -113);
        due("17th and no word", p.fault(), 1);
        String thirty = "wear 1 if " + "bed or ".repeat(30);
        due("41st and eleventh", Check.law(p, thirty + "(".repeat(10) + "bed" + ")".repeat(10) + ";"), -1 - thirty.length() - 10);
        due("41st and eleventh", p.fault(), 4);
        due("41st and none", Check.law(p, thirty + "(".repeat(10) + ")".repeat(10) + ";"), -1 - thirty.length() - 10);
        due("41st and none", p.fault(), 1);
    }

    // ---- promises 9 to 17

    private static void wishes() {
        GrassPark p = lawn(4, 4, 0, 3);
        int[][] bad = {{0, 0, 0, 1, 0}, {1, 1, 0, 1, 0}, {-1, 0, 0, 1, 0}, {0, 2, 0, 1, 0}, {2, 0, 0, 1, 0}, {0, -1, 0, 1, 0},
            {0, 1, -1, 1, 0}, {0, 1, 6, 1, 0}, {0, 1, 0, 0, 0}, {0, 1, 0, 201, 0}, {0, 1, 0, -1, 0}, {0, 1, 0, 1, -1},
            {0, 1, 0, 1, 60001}};
        for (int[] a : bad) {
            due("wish " + Arrays.toString(a), p.wish(a[0], a[1], a[2], a[3], a[4]), -1);
        }
        due("none of them is", p.count(3), 0);
        int[][] good = {{0, 1, 0, 1, 0}, {1, 0, 5, 200, 60000}, {0, 1, 5, 1, 60000}, {1, 0, 0, 200, 0}};
        for (int k = 0; k < good.length; k++) {
            int[] a = good[k];
            due("wish " + Arrays.toString(a), p.wish(a[0], a[1], a[2], a[3], a[4]), k);
        }
        for (int k = 4; k < 24; k++) {
            due("wish", p.wish(0, 1, 0, 200, 300), k);
        }
        due("25", p.wish(0, 1, 0, 200, 300), -1);
        due("24 are", p.count(3), 24);
        p.run(400);
        due("each has begun what was due", p.count(6), 398 + 2 + 20);
    }

    private static void drops() {
        GrassPark p = lawn(4, 4, 0, 3);
        for (int k = 0; k < 24; k++) {
            p.wish(0, 1, 0, 200, k);
        }
        for (int k : new int[] {23, 0, 11}) {
            due("drop " + k, p.drop(k), true);
            due("drop " + k + " once more", p.drop(k), false);
            due("lasts of a dropped one", p.lasts(k, 0, 1, 1), -2);
        }
        due("drop 24", p.drop(24), false);
        due("drop -1", p.drop(-1), false);
        due("they are less", p.count(3), 21);
        due("their numbers stay, so there are 24", p.wish(0, 1, 0, 1, 0), -1);
        p.run(24);
        due("22 and the others are as they were", p.walker(p.count(4) - 1, 1), 22);
        due("21 began", p.count(6) + p.count(4), 21);
    }

    private static void runs() {
        for (int n : new int[] {0, -1, 401, 402, Integer.MIN_VALUE, Integer.MAX_VALUE}) {
            GrassPark p = lawn(4, 4, 0, 3);
            due("run " + n, p.run(n), -1);
            due("no tick", p.count(5), 0);
        }
        for (int n : new int[] {1, 2, 399, 400}) {
            GrassPark p = lawn(4, 4, 0, 3);
            p.wish(0, 1, 0, 1, 0);
            due("run " + n, p.run(n), Math.max(0, n - 2));
            due("so many ticks", p.count(5), n);
        }
        GrassPark p = lawn(4, 4, 0, 1);
        p.wish(0, 1, 0, 200, 59999);
        p.wish(0, 1, 0, 1, 60000);
        for (int i = 0; i < 149; i++) {
            due("run", p.run(400), 0);
        }
        due("59999", p.run(399), 0);
        due("behind 60000", p.run(2), -1);
        due("behind 60000", p.run(400), -1);
        due("tick stays", p.count(5), 59999);
        due("the last tick", p.run(1), 1);
        due("tick", p.count(5), 60000);
        for (int n : new int[] {1, 2, 400}) {
            due("no more", p.run(n), -1);
        }
        due("a case goes on", p.rests(3, 3), 1);
        Check.law(p, "wear 50;");
        due("a case goes on with what is due", p.rests(3, 1), 2);
        due("none of it stays", p.count(5) + p.count(6), 60001);
        due("a week is no tick", p.week(), 0);
        due("a week is no tick", p.count(5), 60000);
    }

    private static void weeksAndRain() {
        for (int n : new int[] {0, -1, 201, Integer.MIN_VALUE, Integer.MAX_VALUE}) {
            GrassPark p = new GrassPark();
            due("rain " + n, p.rain(n), false);
            due("no rain", p.cell(15, 4), 0);
        }
        for (int n : new int[] {1, 2, 199, 200}) {
            GrassPark p = new GrassPark();
            due("rain " + n, p.rain(n), true);
            due("rain " + n, p.cell(0, 4), n);
            due("rain " + n, p.cell(15, 4), n);
            due("rain 1 more", p.rain(1), true);
            due("200 at most", p.cell(15, 4), Math.min(200, n + 1));
            p.week();
            due("drier", p.cell(0, 4), Math.max(0, Math.min(200, n + 1) - 10));
        }
        GrassPark p = new GrassPark();
        Check.bytes(p, 0, 1, 2, 3, 4, 5, 6, 8, 9, 10, 11, 12, 13, 14, 0, 2);
        p.park(4, 4);
        p.rain(7);
        int[] wet = {7, 7, 7, 0, 0, 0, 0, 7, 7, 7, 0, 0, 0, 0, 7, 7};
        for (int c = 0; c < 16; c++) {
            due("rain on " + c, p.cell(c, 4), wet[c]);
        }
        // what is laid then keeps its WET, and it dries by the week
        p.lay(0, 4);
        due("wet stays", p.cell(0, 4), 7);
        Check.law(p, "dry 3;");
        p.week();
        due("paved dries too", p.cell(0, 4), 4);
    }

    private static void lays() {
        GrassPark p = lawn(5, 4, 0, 4);
        for (int c : new int[] {-1, 20, Integer.MIN_VALUE, Integer.MAX_VALUE}) {
            due("lay on " + c, p.lay(c, 1), false);
        }
        for (int kind : new int[] {-1, 7, 8, Integer.MIN_VALUE, Integer.MAX_VALUE}) {
            due("lay kind " + kind, p.lay(7, kind), false);
        }
        Check.law(p, "wear 60;");
        p.wish(0, 1, 0, 200, 0);
        p.run(4);
        p.wish(0, 1, 1, 200, 4);
        p.run(2);
        due("somebody on 2", p.walker(0, 0), 2);
        p.rain(12);
        for (int kind = 0; kind <= 6; kind++) {
            boolean shuts = kind == 3 || kind == 6;
            p.image(0);
            due("lay " + kind + " on a door", p.lay(4, kind), !shuts);
            due("lay " + kind + " under a walker", p.lay(2, kind), !shuts);
            due("lay " + kind, p.lay(3, kind), true);
            due("lay " + kind + " on the last", p.lay(19, kind), true);
            due("kind of a door", p.cell(4, 0), shuts ? 0 : kind);
            due("kind", p.cell(3, 0), kind);
            due("kind of the last", p.cell(19, 0), kind);
            due("wear", p.cell(3, 3), kind == 0 || kind == 2 ? 60 : 0);
            due("worn", p.cell(3, 7), kind == 0 || kind == 2 ? 1 : 0);
            due("wear where it was refused", p.cell(2, 3), shuts || kind == 0 || kind == 2 ? 120 : 0);
            due("wet", p.cell(3, 4), 12);
            due("trod", p.cell(3, 5), 1);
            due("snow", p.cell(3, 6), 1);
            p.lay(3, 0);
            due("wear is not back", p.cell(3, 3), kind == 0 || kind == 2 ? 60 : 0);
            p.restore(0);
        }
        GrassPark q = new GrassPark();
        Check.bytes(q, 8 + 16 * 9, 0, 0, 0, 0, 0, 0, 0, 0, 0, 0, 0, 0, 0, 0, 0);
        q.park(4, 4);
        q.lay(0, 5);
        due("sign stays", q.cell(0, 1), 1);
        due("height stays", q.cell(0, 2), 9);
        due("a door is a door still", q.door(0) == 0 && q.lay(0, 2) && q.door(0) == -1, true);
    }

    private static void cells() {
        GrassPark p = lawn(5, 4, 0, 4);
        p.feed(1, 2, 3, 4, 5);
        p.wish(0, 1, 0, 1, 0);
        p.run(7);
        String before = all(p);
        for (int c : new int[] {-1, 20, 21, 256, Integer.MIN_VALUE, Integer.MAX_VALUE}) {
            for (int what = -1; what <= 9; what++) {
                Check.noCell(p, c, what);
            }
        }
        for (int what : new int[] {-1, 9, 10, Integer.MIN_VALUE, Integer.MAX_VALUE}) {
            Check.noCell(p, 0, what);
            Check.noCell(p, 19, what);
        }
        due("a call that throws changes nothing", all(p).equals(before), true);
        for (int what = 0; what <= 8; what++) {
            p.cell(0, what);
            p.cell(19, what);
        }
    }

    private static void walkers() {
        GrassPark p = lawn(5, 4, 0, 4);
        p.wish(0, 1, 0, 1, 0);
        due("nobody yet", p.walker(0, 0), -1);
        p.run(2);
        due("the second", p.walker(1, 2), 1);
        for (int k : new int[] {-1, 2, 60, Integer.MIN_VALUE, Integer.MAX_VALUE}) {
            for (int what = 0; what < 3; what++) {
                due("walker " + k, p.walker(k, what), -1);
            }
        }
        for (int what : new int[] {-1, 3, Integer.MIN_VALUE, Integer.MAX_VALUE}) {
            due("walker's " + what, p.walker(0, what), -1);
        }
        for (int what : new int[] {-1, 10, Integer.MIN_VALUE, Integer.MAX_VALUE}) {
            due("count " + what, p.count(what), -1);
        }
    }

    // ---- promises 18 to 28: the NET and CASES

    /** Steps from a DOOR to one beside it wear single CELLS: four at most. */
    private static GrassPark worn(int w, int h, int... cells) {
        GrassPark p = lawn(w, h);
        Check.law(p, "wear 100; grow 0;");
        for (int c : cells) {
            int a = p.door(c % w == 0 ? c + 1 : c - 1);
            int b = p.door(c);
            int wish = p.wish(a, b, 0, 200, p.count(5));
            due("one step", p.run(1), 1);
            p.drop(wish);
        }
        due("the net", p.net(), cells.length);
        return p;
    }

    private static void pieces() {
        due("none", worn(5, 4).pieces(), 0);
        due("one", worn(5, 4, 0).pieces(), 1);
        due("the last", worn(16, 16, 255).pieces(), 1);
        due("by its side", worn(6, 4, 1, 2 + 6 + 1).pieces(), 2);
        due("aslant down", worn(6, 4, 7, 14).pieces(), 1);
        due("aslant up", worn(6, 4, 16, 21).pieces(), 1);
        due("below", worn(6, 4, 8, 14).pieces(), 1);
        due("two on", worn(6, 4, 1, 13).pieces(), 2);
        due("the end of a row and the next one", worn(5, 4, 4, 10).pieces(), 2);
        due("a row's end and the next row's begin", worn(5, 4, 9, 15).pieces(), 2);
        due("the first and the last", worn(4, 4, 0, 15).pieces(), 2);
    }

    private static void rests() {
        GrassPark p = lawn(5, 4, 0, 4);
        int[][] bad = {{0, 1}, {41, 1}, {1, 0}, {1, 201}, {-1, 1}, {1, -1}, {0, 0}, {41, 201}};
        for (int[] a : bad) {
            due("rests " + Arrays.toString(a), p.rests(a[0], a[1]), -2);
        }
        int[][] good = {{1, 1}, {40, 1}, {1, 200}, {40, 200}};
        for (int[] a : good) {
            due("rests " + Arrays.toString(a), p.rests(a[0], a[1]), 1);
        }
        // as many CELLS, but not the same: one in each WEEK, then none
        Check.law(p, "wear 40; grow 0 if trod > 0; grow 40;");
        p.wish(0, 1, 0, 200, 0);
        due("others each week", p.rests(5, 1), -1);
        // the first CELL and the last one are of the NET
        GrassPark q = lawn(4, 4, 1, 0, 14, 15);
        Check.law(q, "wear 40; grow 0;");
        q.wish(0, 1, 0, 200, 0);
        due("the first cell", q.rests(5, 1), 2);
        q.drop(0);
        q.wish(2, 3, 0, 200, 0);
        due("the last cell", q.rests(5, 1), 2);
        due("the last cell", q.paved(2, 2, 1, 0), 1);
        due("none behind the fifth and the sixth", p.rests(6, 1), 6);
        due("none now, and behind so long a week none again", p.rests(1, 5), -1);
        Check.law(p, "wear 40;");
        due("all are grown away again", p.rests(1, 5), 1);
        Check.law(p, "wear 50;");
        due("that of now, for the first", p.rests(1, 1), -1);
        p.run(1);
        Check.law(p, "wear 50; grow 0;");
        p.drop(0);
        p.run(5);
        due("that of now is not empty", p.net(), 4);
        due("that of now, for the first", p.rests(1, 1), 1);
    }

    /** The last CELLS of the chain, so many steps from DOOR 0 to DOOR 1. */
    private static GrassPark chained(int steps) {
        int[] chain = Check.chain();
        int last = chain.length - 1;
        int[] cells = new int[256];
        Arrays.fill(cells, 3);
        for (int i = last - steps; i <= last; i++) {
            cells[chain[i]] = 0;
        }
        GrassPark p = new GrassPark();
        Check.bytes(p, cells);
        p.park(16, 16);
        p.door(chain[last - steps]);
        p.door(chain[last]);
        Check.habit(p, 0, "weigh come 99;");
        due("the way along the chain", p.way(0, 1, 0), steps);
        return p;
    }

    private static void restsAtMost() {
        for (int steps = 38; steps <= 40; steps++) {
            GrassPark p = chained(steps);
            Check.law(p, "wear 40; grow 0;");
            p.wish(0, 1, 0, 200, 0);
            due("rests behind " + steps, p.rests(40, 1), steps < 40 ? steps + 1 : -1);
            due("rests in fewer", p.rests(steps, 1), -1);
        }
        // a NET of all rows: what is kept of it
        GrassPark p = chained(118);
        Check.law(p, "wear 40; grow 0 if trod > 0; grow 40;");
        p.wish(0, 1, 0, 200, 0);
        due("the 103rd to 118th are of the last week", p.paved(7, 7, 17, 0), 16);
        due("17 in each", p.paved(6, 7, 17, 0), 17);
        due("17 others", p.paved(6, 7, 17, 1), 17);
        due("none of these", p.paved(6, 7, 17, 2), 16);
        due("one by one they are other ones", p.rests(40, 1), -1);
        due("two by two too", p.rests(40, 2), -1);
    }

    private static void least() {
        GrassPark p = lawn(16, 16, 0, 255, 15, 240, 120, 1, 2, 3, 4);
        int[][] told = {{0, 1}, {1, 0}, {0, 5}, {5, 6, 7, 8}, {0, 5, 6, 7, 8}, {8, 0, 5, 6, 7, 2}};
        int[] costs = {16, 16, 2, 4, 5, 16};
        for (int i = 0; i < told.length; i++) {
            Check.bytes(p, told[i]);
            due("least of " + Arrays.toString(told[i]), p.least(), 21 * costs[i]);
        }
        int[][] bad = {{}, {0}, {0, 0}, {0, 1, 2, 0}, {0, 9}, {9, 0}, {0, 255}, {0, 1, 2, 3, 4, 5, 6}, {1, 2, 3, 4, 5, 5}};
        for (int[] tape : bad) {
            Check.bytes(p, tape);
            due("least of " + Arrays.toString(tape), p.least(), -2);
        }
        // kind by kind: from 0 to 2 in the first row, all else shut
        int[] price = {21, 1, 21, -1, 1, 1, -1};
        for (int kind = 0; kind <= 6; kind++) {
            GrassPark q = new GrassPark();
            int[] cells = new int[16];
            Arrays.fill(cells, 3);
            cells[0] = 1;
            cells[1] = kind;
            cells[2] = 2;
            Check.bytes(q, cells);
            q.park(4, 4);
            q.door(0);
            q.door(2);
            Check.bytes(q, 0, 1);
            due("least over kind " + kind, q.least(), price[kind] < 0 ? -1 : 22 + price[kind]);
        }
        // WORN makes no CELL cheaper, and DOORS beside one another hang together aslant
        GrassPark r = worn(5, 4, 6, 12);
        Check.bytes(r, 1, 3);
        due("least of two aslant", r.least(), 42);
        // six DOORS of which one is shut in
        GrassPark s = Check.park(".....", ".....", "..TTT", "..T.T", "..TTT");
        int[] cells = {0, 4, 10, 20, 2, 18};
        for (int c : cells) {
            s.door(c);
        }
        Check.bytes(s, 0, 1, 2, 3, 4);
        due("least of five", s.least(), 21 * 8);
        Check.bytes(s, 0, 1, 2, 3, 4, 5);
        due("least with one shut in", s.least(), -1);
        Check.bytes(s, 5, 0);
        due("least with one shut in", s.least(), -1);
    }

    private static void longer() {
        GrassPark p = lawn(5, 4, 0, 4);
        int[][] bad = {{0, 0}, {1, 1}, {-1, 0}, {0, -1}, {0, 2}, {2, 0}, {2, 2}};
        for (int[] a : bad) {
            due("longer " + Arrays.toString(a), p.longer(a[0], a[1]), -2);
        }
        due("longer: grass", p.longer(0, 1), -1);
        int[] kinds = {1, 4, 5};
        for (int one : kinds) {
            for (int other : kinds) {
                p.lay(1, one);
                p.lay(2, other);
                p.lay(3, one);
                due("longer over " + one + " and " + other, p.longer(0, 1), 100);
                due("longer back", p.longer(1, 0), 100);
            }
        }
        p.lay(2, 2);
        due("longer: a bed", p.longer(0, 1), -1);
        p.lay(2, 3);
        p.lay(7, 1);
        due("longer: round a tree, as all ways", p.longer(0, 1), 100);
        p.lay(7, 3);
        due("longer: too far round", p.longer(0, 1), -1);
        due("longer: none, behind pieces", p.pieces() == 0 && p.longer(1, 0) == -1, true);
        p.lay(2, 4);
        due("longer back, behind pieces", p.pieces() == 0 && p.longer(1, 0) == 100, true);
        // DOORS beside one another, on grass
        GrassPark q = lawn(4, 4, 0, 1, 5);
        due("longer: beside", q.longer(0, 1), 100);
        due("longer: aslant", q.longer(0, 2), 100);
        // WORN at just LINE
        GrassPark r = lawn(6, 4, 6, 9);
        Check.law(r, "wear 40;");
        r.wish(0, 1, 0, 200, 0);
        due("longer: three steps", r.run(3), 1);
        due("longer over what is worn", r.longer(0, 1), 100);
        Check.law(r, "line 41;");
        due("longer over what is not", r.longer(0, 1), -1);
        // 76 of 62 is 122.58
        GrassPark s = Check.park(".g..", "..g.", "...g", "..g.", ".g..");
        s.door(0);
        s.door(16);
        s.lay(4, 3);
        s.lay(5, 3);
        s.lay(8, 3);
        s.lay(9, 3);
        due("longer over gravel alone", s.longer(0, 1), 122);
    }

    /** 6 is worn and so high that a walker takes it at 'line' 4 and as many as it is high. */
    private static GrassPark turning(int height, String habit, int k) {
        GrassPark p = new GrassPark();
        int[] cells = new int[25];
        cells[6] = 16 * height;
        Check.bytes(p, cells);
        p.park(5, 5);
        p.door(10);
        p.door(14);
        p.door(6);
        Check.law(p, "wear 100; grow 0;");
        int wish = p.wish(0, 2, 0, 200, 0);
        due("6 is worn", p.run(1), 1);
        p.drop(wish);
        due("habit " + habit, Check.habit(p, k, habit) > 0, true);
        p.wish(0, 1, k, 200, 1);
        return p;
    }

    private static void turns() {
        for (int height = 0; height <= 6; height++) {
            int k = height % 6;
            GrassPark p = turning(height, "weigh climb 1; sight 1; weigh line 7;", k);
            int want = height <= 5 ? height + 4 : -1;
            due("turns: a net of 1, " + height, p.turns(k, 1, 1, 1), want);
            due("turns: a net of 2, " + height, p.turns(k, 1, 1, 2), 0);
            due("turns: none, " + height, p.turns(k, 1, 1, 0), -1);
            due("turns: its number stays, " + height, p.way(0, 1, k), 4);
            due("turns: its number stays, " + height, p.wayAt(1), height + 4 <= 7 ? 6 : 11);
        }
        GrassPark p = turning(0, "weigh line 7;", 5);
        int[][] bad = {{-1, 1, 1}, {6, 1, 1}, {5, 0, 1}, {5, 5, 1}, {5, 1, 0}, {5, 1, 101}, {5, -1, 1}, {5, 1, -1}, {0, 0, 1}, {0, 1, 101}};
        for (int[] a : bad) {
            due("turns " + Arrays.toString(a), p.turns(a[0], a[1], a[2], 25), -2);
        }
        for (int h = 0; h < 5; h++) {
            due("turns: no 'weigh line' in " + h, p.turns(h, 1, 1, 25), -1);
        }
        int[][] good = {{5, 1, 1}, {5, 4, 1}, {5, 1, 100}, {5, 4, 100}};
        for (int[] a : good) {
            due("turns " + Arrays.toString(a), p.turns(a[0], a[1], a[2], 25), 0);
        }
        due("turns: a NET of all", p.turns(5, 1, 1, Integer.MAX_VALUE), 0);
        Check.habit(p, 4, "weigh turn 3; never bed; sight 2;");
        due("turns: other lines", p.turns(4, 1, 1, 25), -1);
        Check.habit(p, 4, "never bed;".repeat(16));
        due("turns: sixteen other lines", p.turns(4, 1, 1, 25), -1);
        Check.habit(p, 4, "never bed;".repeat(15) + "weigh line 2;");
        due("turns: the sixteenth", p.turns(4, 1, 1, 25), 0);
    }

    private static void turnsTakeTheFirst() {
        // the first one holds of no CELL at all: no NUMBER in its place does anything
        GrassPark p = turning(0, "weigh line 3 if bed; sight 1; weigh line 4;", 2);
        due("turns: the first", p.turns(2, 1, 1, 1), 0);
        GrassPark q = turning(0, "weigh line 9 if bed; sight 1; weigh line 3;", 2);
        due("turns: the first", q.turns(2, 1, 1, 1), -1);
        GrassPark r = turning(3, "sight 1; weigh climb 1; weigh line 50; weigh line 3;", 2);
        due("turns: the first of two", r.turns(2, 1, 1, 1), 4);
        r.way(0, 1, 2);
        due("turns: 50 stays", r.wayAt(1), 6);
    }

    private static void paved() {
        GrassPark p = lawn(5, 4, 0, 4);
        int[][] bad = {{0, 1, 1, 0}, {2, 1, 1, 0}, {1, 0, 1, 0}, {1, 21, 1, 0}, {21, 21, 1, 0}, {1, 1, 0, 0}, {1, 1, 201, 0}, {1, 1, 1, -1},
            {1, 1, 1, 3}, {-1, 1, 1, 0}, {20, 19, 1, 0}};
        for (int[] a : bad) {
            due("paved " + Arrays.toString(a), p.paved(a[0], a[1], a[2], a[3]), -1);
        }
        int[][] none = {{0, 1}, {21, 1}, {1, 0}, {1, 201}, {-1, 1}, {1, -1}};
        for (int[] a : none) {
            due("wait " + Arrays.toString(a), p.wait(a[0], a[1]), -1);
        }
        due("paved 20 of 20 of 200", p.paved(20, 20, 200, 2), 0);
        due("wait 20 of 200", p.wait(20, 200), 1);
        Check.law(p, "wear 40; grow 0;");
        p.wish(0, 1, 0, 200, 0);
        due("wait 1 of 1", p.wait(1, 1), 1);
        for (int w = 1; w <= 4; w++) {
            due("paved behind " + w, p.paved(w, 4, 1, 0), w);
            due("too soon behind " + w, p.paved(w, 4, 1, 1), 0);
            due("missed behind " + w, p.paved(w, 4, 1, 2), 4 - w);
        }
        // 3 + 1, 2 + 2, 1 + 3, 0 + 4: of like ones the lesser
        due("wait: like ones", p.wait(4, 1), 1);
        p.door(15);
        p.door(19);
        p.wish(2, 3, 0, 200, 0);
        // 6 + 1, 4 + 2, 2 + 3, 0 + 4
        due("wait: the last", p.wait(4, 1), 4);
        due("wait: the last of 3", p.wait(3, 1), 3);
        due("wait: 20", p.wait(20, 1), 4);
        Check.law(p, "wear 40; grow 0 if trod > 0; grow 40;");
        for (int w = 1; w <= 4; w++) {
            due("paved, grown " + w, p.paved(w, 4, 1, 0), 2);
            due("too soon, grown " + w, p.paved(w, 4, 1, 1), w < 4 ? 2 : 0);
            due("missed, grown " + w, p.paved(w, 4, 1, 2), w < 4 ? 2 : 0);
        }
        // 4 + 1, 4 + 2, 4 + 3, 4
        due("wait: both together and w", p.wait(4, 1), 4);
        // behind 5 none: 2 + w, or 5
        due("wait: too soon and w", p.wait(5, 1), 1);
    }

    private static void fences() {
        GrassPark p = lawn(5, 4, 0, 4);
        p.wish(0, 1, 0, 200, 0);
        for (int ticks : new int[] {0, 101, -1, Integer.MAX_VALUE}) {
            Check.bytes(p, 6);
            due("fences in " + ticks, p.fences(3, ticks), -2);
        }
        for (int c : new int[] {-1, 20, Integer.MAX_VALUE}) {
            Check.bytes(p, 6);
            due("fences for " + c, p.fences(c, 1), -2);
        }
        Check.bytes(p);
        due("fences: none told", p.fences(3, 1), -2);
        Check.bytes(p, 5, 6, 7, 8, 9, 10, 11, 12, 13, 14, 15, 16, 17);
        due("fences: 13 told", p.fences(3, 1), -2);
        Check.bytes(p, 5, 6, 7, 8, 9, 10, 11, 12, 13, 14, 15, 16);
        due("fences: 12 told", p.fences(3, 2), 0);
        due("fenceAt: none of 0", p.fenceAt(0), -1);
        // stepped on in the third TICK
        Check.bytes(p, 3);
        due("fences in 2", p.fences(3, 2), 0);
        Check.bytes(p, 3);
        due("fences in 3", p.fences(3, 3), 1);
        Check.bytes(p, 3);
        due("fences in 100", p.fences(3, 100), 1);
        Check.bytes(p, 3);
        due("fences in 101", p.fences(3, 101), -2);
        due("fenceAt: as it was", p.fenceAt(0), 3);
        int[][] bad = {{0}, {4}, {3, 0}, {3, 20}, {3, 255}, {19, 4}};
        for (int[] tape : bad) {
            Check.bytes(p, tape);
            due("fences at " + Arrays.toString(tape), p.fences(3, 3), -2);
        }
        p.lay(8, 3);
        Check.bytes(p, 3, 8);
        due("fences at a tree", p.fences(3, 3), -2);
        p.lay(8, 6);
        Check.bytes(p, 8);
        due("fences at a fence", p.fences(3, 3), -2);
        p.lay(8, 5);
        Check.bytes(p, 8);
        due("fences at steps", p.fences(3, 3), -1);
        p.run(2);
        Check.bytes(p, 3, 2);
        due("fences where a walker is", p.fences(3, 3), -2);
        Check.bytes(p, 7);
        due("where it is, it does not step", p.fences(2, 9), 0);
        Check.bytes(p, 3);
        due("but on it goes", p.fences(3, 1), 1);
        Check.bytes(p, 7);
        due("its door is stepped on", p.fences(4, 2), -1);
        due("nothing of it stays", p.cell(3, 0) + p.cell(7, 0), 0);
        due("nothing of it stays", p.count(5), 2);
    }

    private static void fencesInTheirOrder() {
        // the way goes by 1, 2, 3; with one of them shut it goes by 6, 7 or 8
        String[] rows = {".....", ".....", "FFFFF", "....."};
        for (int[] told : new int[][] {{3, 1, 2}, {2, 3, 1}, {1, 2, 3}, {16, 2, 1}, {8, 7, 2}, {2}}) {
            GrassPark p = Check.park(rows);
            p.door(0);
            p.door(4);
            p.wish(0, 1, 0, 200, 0);
            Check.bytes(p, told);
            due("fences: one of " + Arrays.toString(told), p.fences(2, 10), 1);
            due("fences: the first as told of " + Arrays.toString(told), p.fenceAt(0), firstOf(p, told));
            due("fences: no second", p.fenceAt(1), -1);
        }
        pairs();
        GrassPark q = Check.park(rows);
        q.door(0);
        q.door(4);
        q.wish(0, 1, 0, 200, 0);
        Check.bytes(q, 7, 7, 2, 2);
        due("fences: told twice", q.fences(2, 10), 1);
        due("fences: told twice", q.fenceAt(0), 2);
    }

    /** By laying them one by one: the first with which nobody comes on 2. */
    private static int firstOf(GrassPark p, int[] told) {
        for (int c : told) {
            p.image(2);
            p.lay(c, 6);
            p.run(10);
            int trod = p.cell(2, 5);
            p.restore(2);
            if (trod == 0) {
                return c;
            }
        }
        return -1;
    }

    /** Two halls lead to 23: one of the told CELLS in each must be shut, and of such pairs the first is. */
    private static void pairs() {
        String[] rows = {"TTTTTTTT", "........", "TTTTTTT.", "........", "TTTTTTTT"};
        int[][] tapes = {{9, 25}, {25, 9}, {9, 10, 25, 26}, {10, 11, 12, 13, 14, 9, 26, 27}, {9, 10, 11, 12, 13, 14, 25, 26, 27, 28, 29, 30},
            {30, 14}, {14, 13, 12, 11, 10, 9, 30, 25}, {9, 10, 11, 12, 13, 14, 9, 10, 11, 12, 13, 30}};
        for (int[] told : tapes) {
            GrassPark p = Check.park(rows);
            for (int c : new int[] {8, 24, 23}) {
                p.door(c);
            }
            p.wish(0, 2, 0, 200, 0);
            p.wish(1, 2, 0, 200, 0);
            Check.bytes(p, told);
            due("fences: two of " + Arrays.toString(told), p.fences(23, 30), 2);
            int[] want = {-1, -1};
            for (int i = 0; i < told.length && want[0] < 0; i++) {
                for (int j = i + 1; j < told.length && want[0] < 0; j++) {
                    if (told[i] / 16 != told[j] / 16) {
                        want[0] = told[i];
                        want[1] = told[j];
                    }
                }
            }
            due("fences: the first of two", p.fenceAt(0), want[0]);
            due("fences: the second of two", p.fenceAt(1), want[1]);
            due("fences: no third", p.fenceAt(2), -1);
            Check.bytes(p, Arrays.stream(told).filter(c -> c < 16).toArray());
            due("fences: in one hall alone", p.fences(23, 30), -1);
        }
    }

    private static void fenceAt() {
        GrassPark p = lawn(5, 4, 0, 4);
        p.wish(0, 1, 0, 200, 0);
        for (int k = -1; k <= 2; k++) {
            due("ahead of any " + k, p.fenceAt(k), -1);
        }
        Check.bytes(p, 20);
        due("not as told", p.fences(2, 9), -2);
        due("ahead of any that did", p.fenceAt(0), -1);
        Check.bytes(p, 16);
        due("two don't do", p.fences(2, 9), -1);
        due("ahead of any that did", p.fenceAt(0), -1);
        Check.bytes(p, 2);
        due("one", p.fences(2, 9), 1);
        int[][] odd = {{20}, {16}};
        for (int[] tape : odd) {
            Check.bytes(p, tape);
            due("not 0 or above", p.fences(2, 9) < 0, true);
            due("it stays", p.fenceAt(0), 2);
        }
        for (int k : new int[] {-1, 1, 2, Integer.MIN_VALUE, Integer.MAX_VALUE}) {
            due("none such " + k, p.fenceAt(k), -1);
        }
        Check.bytes(p, 2);
        due("none is needed", p.fences(12, 9), 0);
        due("none of these", p.fenceAt(0), -1);
    }

    private static void lasts() {
        for (int grow = 23; grow <= 25; grow++) {
            GrassPark p = lawn(5, 4, 0, 4, 8);
            Check.law(p, "wear 999; grow " + grow + ";");
            p.wish(0, 1, 0, 1, 0);
            p.run(1);
            due("wear", p.cell(1, 3), 999);
            p.run(4);
            // below 40 behind the first WEEK of which 999 - grow * week is
            int want = (999 - 40) / grow + 1;
            due("lasts", p.lasts(0, 2, 40, 200), p.cell(2, 7) == 0 ? 0 : lastsBySteps(p, 2));
            p.drop(0);
            p.run(4);
            int k = p.wish(2, 0, 1, 200, 0);
            Check.habit(p, 1, "never grass;");
            due("lasts 40 at most, by " + grow, p.lasts(k, 1, 40, 200), want <= 40 ? want : -1);
            due("lasts in as many, by " + grow, p.lasts(k, 1, 39, 1), want <= 39 ? want : -1);
            due("lasts: one week", p.lasts(k, 1, 1, 1), -1);
            due("lasts: not now", p.lasts(k, 19, 1, 1), 0);
            int[][] bad = {{k, 1, 0, 1}, {k, 1, 41, 1}, {k, 1, 1, 0}, {k, 1, 1, 201}, {k, -1, 1, 1}, {k, 20, 1, 1}, {-1, 1, 1, 1},
                {k + 1, 1, 1, 1}, {0, 1, 1, 1}, {k, 19, 0, 1}};
            for (int[] a : bad) {
                due("lasts " + Arrays.toString(a), p.lasts(a[0], a[1], a[2], a[3]), -2);
            }
        }
        // without the WISH: who began by it goes on
        GrassPark q = lawn(5, 4, 0, 4);
        Check.law(q, "wear 50; grow 10;");
        q.wish(0, 1, 0, 200, 0);
        q.run(1);
        due("not worn yet", q.lasts(0, 2, 3, 1), 0);
        due("50, 40, 30", q.lasts(0, 1, 3, 1), 2);
        due("50 + .., with a walker on its way there", q.lasts(0, 1, 3, 3), 2);
        due("the wish is there still", q.count(3), 1);
    }

    /** The same by dropping it, and WEEK by WEEK. */
    private static int lastsBySteps(GrassPark p, int c) {
        p.image(2);
        p.drop(0);
        int weeks = 0;
        while (weeks <= 40 && p.cell(c, 7) == 1) {
            p.run(200);
            p.week();
            weeks++;
        }
        p.restore(2);
        return weeks <= 40 ? weeks : -1;
    }

    // ---- promises 29 to 33: WAYS

    private static void ways() {
        GrassPark p = lawn(5, 4, 7, 9, 12);
        int[][] bad = {{0, 0, 0}, {1, 1, 5}, {-1, 0, 0}, {0, -1, 0}, {0, 3, 0}, {3, 0, 0}, {0, 1, -1}, {0, 1, 6}};
        for (int k = -1; k <= 1; k++) {
            due("wayAt ahead of any", p.wayAt(k), -1);
        }
        for (int[] a : bad) {
            due("way " + Arrays.toString(a), p.way(a[0], a[1], a[2]), -2);
            due("wayAt ahead of any that was", p.wayAt(0), -1);
        }
        for (int h = 0; h < 6; h++) {
            due("way by " + h, p.way(0, 1, h), 2);
            due("wayAt 0", p.wayAt(0), 7);
            due("wayAt 1", p.wayAt(1), 8);
            due("wayAt 2", p.wayAt(2), 9);
            due("wayAt 3", p.wayAt(3), -1);
        }
        for (int[] a : bad) {
            due("way " + Arrays.toString(a), p.way(a[0], a[1], a[2]), -2);
            due("wayAt: the latest that was not", p.wayAt(2), 9);
        }
        due("a way of one", p.way(0, 2, 0), 1);
        due("wayAt 1", p.wayAt(1), 12);
        due("wayAt 2", p.wayAt(2), -1);
        Check.habit(p, 0, "never grass;");
        due("a lost way", p.way(1, 0, 0), -1);
        due("wayAt: its door", p.wayAt(0), 9);
        due("wayAt: no step", p.wayAt(1), -1);
        for (int k : FAR) {
            due("wayAt " + k, p.wayAt(k), -1);
        }
        // nobody wears its ground: twice the same CELLS, though they would be worn
        GrassPark q = lawn(5, 4, 0, 4);
        Check.law(q, "wear 100;");
        Check.habit(q, 0, "never worn or trod > 0;");
        String before = all(q);
        due("nobody wears it", q.way(0, 1, 0), 4);
        due("nobody wears it", q.way(0, 1, 0), 4);
        Check.bytes(q, 1, 2, 3, 4);
        due("nobody wears it", q.fits(0, 1), 63);
        Check.bytes(q, 0, 1, 0);
        due("nobody wears it", q.read(), 1);
        due("nothing of it stays", all(q).split("\n")[1].equals(before.split("\n")[1]), true);
    }

    private static void read() {
        GrassPark p = lawn(5, 4, 0, 4, 19);
        Check.law(p, "wear 0;");
        Check.habit(p, 1, "weigh height 1;");
        Check.habit(p, 2, "never grass;");
        int[][] bad = {{}, {0}, {0, 1}, {0, 1, 0, 1}, {0, 1, 0, 1, 0}, {0, 0, 0}, {0, 3, 0}, {3, 0, 0}, {0, 1, 6}, {0, 1, 255},
            {0, 1, 0, 0, 1, 2}, {0, 1, 2, 0, 1, 0}, {0, 1, 0, 0, 1, 0, 0, 1, 0, 0, 1, 0, 0, 1, 0, 0, 1, 0}};
        for (int[] tape : bad) {
            Check.bytes(p, tape);
            due("read " + Arrays.toString(tape), p.read(), -1);
            due("reads ahead of any", p.reads(0, 0), -1);
        }
        for (int n = 1; n <= 5; n++) {
            int[] tape = new int[3 * n];
            for (int i = 0; i < n; i++) {
                tape[3 * i + 1] = 1;
                tape[3 * i + 2] = i % 2 == 0 ? 0 : 3;
            }
            Check.bytes(p, tape);
            due("read " + n + " in no snow", p.read(), 1);
            for (int i = 0; i < 5; i++) {
                due("reads " + i + " of " + n, p.reads(i, 0), i < n ? 0 : -1);
                due("reads " + i + " of " + n, p.reads(i, 1), i < n ? 0 : -1);
            }
        }
        // nine each of one WAY and of five, ten and 46 do not go
        int[] five = {0, 1, 0, 0, 1, 1, 0, 1, 3, 0, 1, 4, 0, 1, 5};
        for (int steps : new int[] {1, 8, 9, 10, 44, 45, 46}) {
            GrassPark q = lawn(5, 4, 0, 4);
            Check.law(q, "wear 0;");
            q.wish(0, 1, 0, 1, 0);
            q.run(steps);
            q.drop(0);
            q.run(9);
            due("steps in all", q.cell(1, 6), steps);
            Check.bytes(q, 0, 1, 0);
            due("read one of " + steps, q.read(), steps <= 9 ? 1 : 0);
            Check.bytes(q, five);
            due("read five of " + steps, q.read(), sums(5, steps));
            boolean any = steps <= 45;
            for (int i = 0; i < 5; i++) {
                due("reads, the least of " + steps, q.reads(i, 0), any ? Math.max(0, steps - 36) : -1);
                due("reads, the most of " + steps, q.reads(i, 1), any ? Math.min(9, steps) : -1);
            }
        }
        // all steps but the first are of the WAY, and as many as it has
        GrassPark r = lawn(5, 4, 0, 4, 6, 10, 5);
        r.wish(2, 1, 0, 200, 0);
        r.wish(3, 4, 0, 200, 0);
        due("steps on 2, 3, 4 and 5", r.run(3), 2);
        due("steps on 2, 3, 4 and 5", r.cell(2, 6) + r.cell(3, 6) + r.cell(4, 6) + r.cell(5, 6), 4);
        Check.bytes(r, 0, 1, 0);
        due("read: all but the first step", r.read(), 0);
        Check.bytes(r, 2, 1, 0, 3, 4, 0);
        due("read: both", r.read(), 1);
        // a step that none of them takes; one of a WAY that the others hold too
        p.wish(2, 1, 0, 200, 0);
        p.wish(0, 1, 0, 200, 0);
        p.run(8);
        Check.bytes(p, 0, 1, 0);
        due("read: a step beside", p.read(), 0);
        Check.bytes(p, 0, 1, 0, 2, 1, 0);
        due("read: both", p.read(), 1);
        Check.bytes(p, 0, 1, 0, 2, 1, 0, 0, 2, 0);
        due("read: not the third", p.read(), 1);
        due("reads: not the third", p.reads(2, 1), 0);
        due("reads: the second", p.reads(1, 0), 1);
    }

    /** In how many ways so many are told by some numbers of 0 to 9. */
    private static int sums(int numbers, int sum) {
        if (numbers == 0) {
            return sum == 0 ? 1 : 0;
        }
        int n = 0;
        for (int d = 0; d <= 9 && d <= sum; d++) {
            n += sums(numbers - 1, sum - d);
        }
        return n;
    }

    private static void reads() {
        GrassPark p = lawn(5, 4, 0, 4, 19);
        p.wish(0, 1, 0, 200, 0);
        p.run(5);
        Check.bytes(p, 0, 1, 0, 0, 2, 0);
        due("read two", p.read(), 1);
        int[][] odd = {{0, 1}, {0, 2, 0}, {0, 0, 0}};
        int[] answers = {-1, 0, -1};
        for (int i = 0; i < odd.length; i++) {
            Check.bytes(p, odd[i]);
            due("read", p.read(), answers[i]);
            due("reads stay", p.reads(0, 0), 1);
            due("reads stay", p.reads(0, 1), 1);
            due("reads stay", p.reads(1, 1), 0);
            due("reads: none such", p.reads(2, 0), -1);
        }
        for (int k : FAR) {
            due("reads of " + k, p.reads(k, 0), -1);
            due("reads' " + k, p.reads(0, k), -1);
        }
        due("reads' 2", p.reads(0, 2), -1);
        Check.bytes(p, 0, 1, 5);
        due("read one", p.read(), 1);
        due("reads: of the latest", p.reads(1, 0), -1);
        due("reads: the most", p.reads(0, 1), 1);
        p.snow();
        Check.bytes(p, 0, 1, 5);
        due("read no snow", p.read(), 1);
        due("reads: the most of now", p.reads(0, 1), 0);
        due("reads: the least of now", p.reads(0, 0), 0);
    }

    private static void fits() {
        GrassPark p = lawn(5, 4, 0, 4, 1);
        Check.habit(p, 1, "never sign;");
        Check.habit(p, 4, "never grass;");
        int[][] bad = {{0, 0}, {1, 1}, {-1, 0}, {0, -1}, {0, 3}, {3, 0}};
        for (int[] a : bad) {
            Check.bytes(p, 1, 2, 3, 4);
            due("fits " + Arrays.toString(a), p.fits(a[0], a[1]), -1);
            due("its tape", p.count(9), 0);
        }
        due("fits of none", p.fits(0, 1), -1);
        for (int n : new int[] {201, 202, 440}) {
            Check.tape(p, "\1".repeat(n));
            due("fits of " + n, p.fits(0, 1), -1);
        }
        for (int n : new int[] {1, 2, 199, 200}) {
            Check.tape(p, "\1".repeat(n));
            due("fits of " + n, p.fits(0, 1), 0);
        }
        Check.bytes(p, 1);
        due("fits: one step", p.fits(0, 2), 63);
        int[][] tapes = {{1, 2, 3, 4}, {6, 2, 3, 4}, {1, 2, 8, 4}, {1, 2, 3, 9}, {1, 2, 3}, {1, 2, 3, 4, 4}, {0, 1, 2, 3, 4}, {255, 2, 3, 4}};
        for (int i = 0; i < tapes.length; i++) {
            Check.bytes(p, tapes[i]);
            due("fits " + Arrays.toString(tapes[i]), p.fits(0, 1), i == 0 ? 63 - 16 : 0);
        }
        fitsOfLostOnes();
    }

    /** A WAY that goes just over the told CELLS and then no more is one of them too. */
    private static void fitsOfLostOnes() {
        GrassPark p = lawn(4, 4, 0, 3);
        for (int c : new int[] {2, 6}) {
            p.lay(c, 1);
        }
        Check.habit(p, 0, "never gravel or height > 0;");
        Check.habit(p, 2, "never not grass; weigh come 99; weigh turn 99;");
        p.lay(4, 3);
        p.lay(5, 3);
        p.lay(10, 3);
        p.lay(9, 3);
        p.lay(8, 3);
        Check.habit(p, 3, "never gravel or trod > 0;");
        due("a lost way", p.way(0, 1, 0), -1);
        due("its first step", p.wayAt(1), 1);
        due("it goes back and forth", p.wayAt(200), 0);
        int[] forthAndBack = new int[200];
        for (int i = 0; i < 200; i++) {
            forthAndBack[i] = i % 2 == 0 ? 1 : 0;
        }
        Check.bytes(p, forthAndBack);
        due("fits of lost ones", p.fits(0, 1), 1 + 4 + 8);
        Check.bytes(p, Arrays.copyOf(forthAndBack, 199));
        due("fits of lost ones, cut off", p.fits(0, 1), 0);
        Check.bytes(p, 1, 2, 3);
        due("fits of those that arrive", p.fits(0, 1), 63 - 1 - 4 - 8);
    }

    // ---- promises 34 to 36

    private static void images() {
        GrassPark p = new GrassPark();
        for (int k : new int[] {-1, 3, 4, Integer.MIN_VALUE, Integer.MAX_VALUE}) {
            due("image " + k, p.image(k), false);
            due("restore " + k, p.restore(k), false);
        }
        for (int k = 0; k < 3; k++) {
            due("restore: nothing in " + k, p.restore(k), false);
        }
        // three places, and each keeps its own
        for (int k = 0; k < 3; k++) {
            int[] cells = new int[4 * (4 + k)];
            Arrays.fill(cells, 8 * k + 16 * (5 + k));
            cells[1] = k;
            Check.bytes(p, cells);
            p.park(4, 4 + k);
            for (int d = 0; d <= k + 1; d++) {
                p.door(3 + 2 * d);
            }
            p.wish(0, 1, k, 5, 0);
            p.wish(1, 0, k, 7, 1);
            p.drop(k % 2);
            p.rain(3 + k);
            p.run(3 + k);
            due("image " + k, p.image(k), true);
        }
        for (int k = 2; k >= 0; k--) {
            due("restore " + k, p.restore(k), true);
            due("h", p.count(1), 4 + k);
            due("kind", p.cell(1, 0), k);
            due("sign", p.cell(2, 1), k == 1 ? 1 : 0);
            due("height", p.cell(2, 2), 5 + k + (k == 2 ? 1 : 0));
            due("wet", p.cell(2, 4), 3 + k);
            due("doors", p.count(2), k + 2);
            due("wishes", p.count(3), 1);
            due("tick", p.count(5), 3 + k);
            due("dropped", p.drop(k % 2), false);
            due("not dropped", p.drop(1 - k % 2), true);
            due("changed", p.lay(1, 5), true);
            due("restore " + k + " again", p.restore(k), true);
            due("as kept", p.cell(1, 0), k);
            due("as kept", p.count(3), 1);
        }
        notOfThePark();
    }

    /** An image of as many DOORS, WISHES and WALKERS as there can be, and of all that was counted. */
    private static void fullImages() {
        GrassPark p = lawn(16, 16, 255, 0, 15, 240, 17, 30, 225, 238, 120);
        Check.habit(p, 1, "never wet < 999;");
        for (int k = 0; k < 24; k++) {
            p.wish(k % 9, (k + 1) % 9, k % 2, 4, 0);
        }
        p.run(205);
        due("sixty", p.count(4), 60);
        int[] counts = new int[9];
        for (int what = 0; what < 9; what++) {
            counts[what] = p.count(what);
        }
        due("some arrived, some are lost, some were turned away", counts[6] > 0 && counts[7] > 0 && counts[8] > 0, true);
        due("image", p.image(0), true);
        String kept = all(p);
        p.run(200);
        String on = all(p);
        for (int what = 5; what < 9; what++) {
            due("more of " + what, p.count(what) > counts[what], true);
        }
        for (int turn = 0; turn < 2; turn++) {
            Check.bytes(p, new int[16]);
            due("a park", p.park(4, 4), true);
            for (int what = 2; what < 9; what++) {
                due("a park: none of " + what, p.count(what), 0);
            }
            due("restore", p.restore(0), true);
            due("as kept", all(p).equals(kept), true);
            due("no more doors", p.door(100), -1);
            due("no more wishes", p.wish(0, 1, 0, 1, 0), -1);
            p.run(200);
            due("on as without", all(p).equals(on), true);
        }
        p.restore(0);
        due("a case of it", p.rests(1, 200) != -2, true);
        due("as kept", all(p).equals(kept), true);
    }

    /** Each call behind a CASE is about THE PARK as it is, and not about the CASE. */
    private static void behindACase() {
        String[] names = {"pieces", "net", "longer", "least", "way", "fits", "read", "week", "run", "cell"};
        for (int call = 0; call < names.length; call++) {
            GrassPark p = lawn(8, 7, 0, 7, 48, 55);
            Check.law(p, "wear 50; grow 5;");
            Check.habit(p, 1, "weigh line 3; never trod > 0;");
            p.wish(0, 1, 1, 7, 0);
            p.wish(2, 3, 1, 9, 1);
            p.run(6);
            p.image(0);
            int want = asked(p, call);
            for (int turn = 0; turn < 6; turn++) {
                p.restore(0);
                switch (turn) {
                    case 0: p.rests(7, 50); break;
                    case 1: p.paved(2, 5, 50, 0); break;
                    case 2: p.wait(5, 50); break;
                    case 3: p.turns(1, 4, 50, 0); break;
                    case 4: p.lasts(0, 1, 7, 50); break;
                    default:
                        Check.bytes(p, 20, 21);
                        p.fences(15, 60);
                        break;
                }
                due(names[call] + " behind case " + turn, asked(p, call), want);
            }
        }
    }

    private static int asked(GrassPark p, int call) {
        switch (call) {
            case 0: return p.pieces();
            case 1: return p.net();
            case 2: return p.longer(1, 0);
            case 3:
                Check.bytes(p, 0, 1, 2, 3);
                return p.least();
            case 4: return p.way(0, 1, 1) * 1000 + p.wayAt(1);
            case 5:
                Check.bytes(p, 1, 2, 3, 4, 5, 6, 7);
                return p.fits(0, 1);
            case 6:
                Check.bytes(p, 0, 1, 0, 2, 3, 0);
                return p.read();
            case 7: return p.week() * 1000 + p.cell(1, 3);
            case 8: return p.run(9) * 1000 + p.net();
            default: return p.cell(1, 3) * 1000 + p.cell(1, 5);
        }
    }

    /** The LAW, the HABITS, the tape and the latest answers are not of THE PARK: restore() leaves them. */
    private static void notOfThePark() {
        GrassPark p = lawn(5, 4, 0, 4);
        p.wish(0, 1, 0, 1, 0);
        p.run(8);
        p.image(0);
        Check.law(p, "line 20;");
        Check.habit(p, 0, "never grass;");
        due("a fault", Check.habit(p, 1, "x"), -1);
        p.way(0, 1, 1);
        Check.bytes(p, 6, 7);
        p.fences(12, 5);
        p.snow();
        Check.bytes(p, 0, 1, 1);
        p.read();
        p.feed(1, 2, 3, 4, 5);
        due("restore", p.restore(0), true);
        due("the law stays", p.cell(1, 7) == 1 && p.cell(3, 3) == 30 && p.cell(3, 7) == 1, true);
        due("the habit stays", p.way(0, 1, 0), -1);
        due("the fault stays", p.fault(), 1);
        due("the tape stays", p.count(9), 20);
        due("the reads stay", p.reads(0, 1), 0);
        due("snow is as kept", p.cell(1, 6), 8);
    }

    /** Of a CASE nothing stays, whatever it is asked for. */
    private static void casesLeaveNothing() {
        GrassPark p = lawn(8, 7, 0, 7, 48, 55);
        Check.law(p, "wear 9; grow 3 if trod > 0;");
        Check.habit(p, 1, "weigh line 3; weigh green 1; weigh crowd 2; weigh turn 2; weigh come 9 if wear > 5;");
        p.wish(0, 3, 1, 3, 0);
        p.wish(1, 2, 1, 4, 1);
        p.wish(3, 0, 0, 5, 2);
        p.run(23);
        p.rain(30);
        p.way(0, 1, 1);
        String before = all(p);
        p.rests(9, 40);
        p.turns(1, 4, 50, 3);
        p.paved(3, 9, 30, 1);
        p.wait(9, 30);
        p.lasts(1, 30, 9, 30);
        p.longer(0, 1);
        due("nothing of them stays", all(p).equals(before), true);
        Check.bytes(p, 4, 5);
        due("two don't do", p.fences(27, 50), -1);
        Check.bytes(p, 0, 1, 2, 3);
        p.least();
        Check.bytes(p, 1, 2);
        p.fits(0, 1);
        due("nothing of these stays", all(p).equals(before), true);
        p.image(0);
        int arrived = p.run(50);
        String on = all(p);
        p.restore(0);
        p.rests(9, 40);
        due("and all goes on as without", p.run(50), arrived);
        due("and all goes on as without", all(p).equals(on), true);
    }

    /** Whatever is told, each call answers. */
    private static void oddArguments() {
        GrassPark[] parks = {new GrassPark(), lawn(16, 16, 0, 255, 17), chained(60)};
        int[] odd = Arrays.copyOf(FAR, FAR.length + 4);
        System.arraycopy(new int[] {0, 1, 2, 7}, 0, odd, FAR.length, 4);
        for (GrassPark p : parks) {
            p.wish(0, 1, 0, 1, 0);
            for (int a : odd) {
                p.way(a, a, a);
                p.longer(a, a);
                p.longer(0, a);
                p.turns(a, a, a, a);
                p.turns(0, 1, 1, a);
                p.paved(a, a, a, a);
                p.wait(a, a);
                p.rests(a, a);
                p.lasts(a, a, a, a);
                p.wayAt(a);
                p.fenceAt(a);
                p.reads(a, a);
                p.walker(a, a);
                p.count(a);
                p.lay(a, 0);
                p.door(a);
                p.drop(a == 0 ? -1 : a);
                p.wish(a, a, a, a, a);
                p.wish(0, 1, a, a, a);
                p.feed(a, a, a, a, a);
                p.fences(a, a);
                p.feed(a, a, a, a, a);
                p.fits(0, a);
                p.feed(a, a, a, a, a);
                p.least();
                p.feed(a, a, a, a, a);
                p.read();
                p.feed(a, a, a, a, a);
                due("odd bytes as a law", p.law() <= 0, true);
                p.feed(a, a, a, a, a);
                p.habit(a);
                p.feed(a, a, a, a, a);
                due("odd bytes as a park", p.park(a, a), false);
                p.end(a);
                p.rain(a);
                p.image(a);
                p.restore(a == 0 ? -1 : a);
            }
            due("it goes on", p.run(3) >= 0, true);
        }
    }
}
