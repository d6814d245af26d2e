/** Every promise by itself: ordinary inputs, the edges that the document names, wrong inputs. */
public final class PromisesTest {
    public static void main(String[] args) {
        newObject();
        feed();
        end();
        park();
        door();
        wish();
        drop();
        run();
        crowdedRun();
        week();
        rain();
        snow();
        lay();
        cell();
        walker();
        netAndPieces();
        rests();
        least();
        leastByAllSets();
        longer();
        turns();
        paved();
        fences();
        lasts();
        way();
        read();
        fits();
        image();
        imageOfCounts();
        count();
        System.exit(Check.end("promises"));
    }

    private static void due(String what, long got, long want) {
        Check.due(what, got, want);
    }

    private static void due(String what, boolean got, boolean want) {
        Check.due(what, got, want);
    }

    /** Five by four, DOORS at the ends of the first row. */
    private static GrassPark lawn() {
        GrassPark p = Check.park(".....", ".....", ".....", ".....");
        due("door", p.door(0), 0);
        due("door", p.door(4), 1);
        return p;
    }

    private static void newObject() {
        GrassPark p = new GrassPark();
        int[] counts = {4, 4, 0, 0, 0, 0, 0, 0, 0, 0, -1};
        for (int what = 0; what < counts.length; what++) {
            due("new: count " + what, p.count(what), counts[what]);
        }
        for (int c = 0; c < 16; c++) {
            for (int what = 0; what < 9; what++) {
                due("new: cell", p.cell(c, what), 0);
            }
        }
        due("new: walker", p.walker(0, 0), -1);
        due("new: fault", p.fault(), 0);
        due("new: net", p.net(), 0);
        due("new: pieces", p.pieces(), 0);
        due("new: wayAt", p.wayAt(0), -1);
        due("new: fenceAt", p.fenceAt(0), -1);
        due("new: reads", p.reads(0, 0), -1);
        due("new: restore", p.restore(0), false);
        due("NONE", GrassPark.NONE, -1);
        // the empty LAW: 5 a step, LINE 40, 10 a WEEK
        due("new: door", p.door(0), 0);
        due("new: door", p.door(3), 1);
        due("new: wish", p.wish(0, 1, 0, 1, 0), 0);
        p.run(8);
        due("new: wear by 5", p.cell(1, 3), 40);
        due("new: worn by 40", p.cell(1, 7), 1);
        due("new: net", p.net(), 1);
        p.week();
        due("new: grows by 10", p.cell(1, 3), 30);
    }

    private static void feed() {
        GrassPark p = new GrassPark();
        for (int i = 1; i <= 22; i++) {
            due("feed", p.feed(0, 0, 0, 0, 0), 20 * i);
        }
        due("feed: too many", p.feed(0, 0, 0, 0, 0), -1);
        due("feed: none come", p.count(9), 440);
        p.end(421);
        due("feed: 441", p.feed(0, 0, 0, 0, 0), -1);
        p.end(420);
        due("feed: 440", p.feed(0, 0, 0, 0, 0), 440);
        p.end(0);
        p.feed(0x10203040, 0x50607080, 0x90A0B0C0, 0xD0E0F000, 0x0F000000);
        p.end(16);
        due("feed: park", p.park(4, 4), true);
        for (int c = 0; c < 16; c++) {
            due("feed: highest first", p.cell(c, 2), c == 15 ? 0 : c + 1);
        }
    }

    private static void end() {
        GrassPark p = new GrassPark();
        due("end: empty", p.end(0), true);
        due("end: not so many", p.end(1), false);
        p.feed(1, 2, 3, 4, 5);
        due("end: below 0", p.end(-1), false);
        due("end: least int", p.end(Integer.MIN_VALUE), false);
        due("end: not so many", p.end(21), false);
        due("end: stays", p.count(9), 20);
        due("end: all", p.end(20), true);
        due("end", p.end(7), true);
        due("end: count", p.count(9), 7);
        due("end: they are gone", p.end(8), false);
    }

    private static void park() {
        GrassPark p = lawn();
        p.wish(0, 1, 0, 1, 0);
        p.rain(50);
        p.run(6);
        String cells = "\0\1\2\3\4\5\6\10\20\360\376\0\0\0\0\0";
        refusedParks(p, cells);
        Check.tape(p, cells);
        due("park: as told", p.park(4, 4), true);
        due("park: tape is empty", p.count(9), 0);
        int[] counts = {4, 4, 0, 0, 0, 0, 0, 0, 0};
        for (int what = 0; what < counts.length; what++) {
            due("park: count " + what, p.count(what), counts[what]);
        }
        for (int c = 0; c < 16; c++) {
            int b = cells.charAt(c);
            due("park: kind", p.cell(c, 0), b % 8);
            due("park: sign", p.cell(c, 1), b / 8 % 2);
            due("park: height", p.cell(c, 2), b / 16);
            due("park: wear", p.cell(c, 3), 0);
            due("park: wet", p.cell(c, 4), 0);
            due("park: trod", p.cell(c, 5), 0);
            due("park: snow", p.cell(c, 6), 0);
        }
        due("park: walker", p.walker(0, 0), -1);
        for (int h = 4; h <= 16; h++) {
            Check.tape(p, "\0".repeat(16 * h));
            due("park: 16 by " + h, p.park(16, h), true);
            due("park: h", p.count(1), h);
        }
    }

    /** Every way in which park() answers false: THE PARK stays, the tape is empty behind it. */
    private static void refusedParks(GrassPark p, String cells) {
        String row = "\0".repeat(4);
        refusedPark(p, "", 0, 0);
        refusedPark(p, "", 4, 4);
        refusedPark(p, row.repeat(5), 0, 0);
        refusedPark(p, row.repeat(3), 4, 3);
        refusedPark(p, row.repeat(3), 3, 4);
        refusedPark(p, row.repeat(17), 17, 4);
        refusedPark(p, row.repeat(17), 4, 17);
        refusedPark(p, cells, -4, -4);
        refusedPark(p, cells, 1 << 16, 1 << 16);
        refusedPark(p, cells, Integer.MIN_VALUE, Integer.MAX_VALUE);
        refusedPark(p, cells, 5, 4);
        refusedPark(p, cells.substring(1), 4, 4);
        refusedPark(p, cells + "\0", 4, 4);
        refusedPark(p, "\0".repeat(440), 16, 16);
        for (char noKind : new char[] {7, 15, 23, 255}) {
            refusedPark(p, noKind + cells.substring(1), 4, 4);
            refusedPark(p, cells.substring(0, 15) + noKind, 4, 4);
        }
    }

    private static void refusedPark(GrassPark p, String tape, int w, int h) {
        String before = all(p);
        String name = "park: " + tape.length() + " bytes as " + w + " by " + h;
        Check.tape(p, tape);
        due(name, p.park(w, h), false);
        due(name + ": tape", p.count(9), 0);
        due(name + ": the next feed", p.feed(0, 0, 0, 0, 0), 20);
        due(name + ": all stays", all(p).equals(before), true);
        p.end(0);
    }

    private static void door() {
        GrassPark p = Check.park("..TF", "....", "....", "....");
        due("door: tree", p.door(2), -1);
        due("door: fence", p.door(3), -1);
        due("door: below", p.door(-1), -1);
        due("door: behind", p.door(16), -1);
        for (int k = 0; k < 9; k++) {
            due("door", p.door(15 - k), k);
            due("door: is one", p.door(15 - k), -1);
        }
        due("door: nine", p.door(0), -1);
        due("door: count", p.count(2), 9);
    }

    private static void wish() {
        GrassPark p = lawn();
        due("wish: like doors", p.wish(1, 1, 0, 1, 0), -1);
        due("wish: no door", p.wish(0, 2, 0, 1, 0), -1);
        due("wish: no door", p.wish(-1, 1, 0, 1, 0), -1);
        due("wish: no habit", p.wish(0, 1, 6, 1, 0), -1);
        due("wish: no habit", p.wish(0, 1, -1, 1, 0), -1);
        due("wish: every 0", p.wish(0, 1, 0, 0, 0), -1);
        due("wish: every 201", p.wish(0, 1, 0, 201, 0), -1);
        due("wish: from -1", p.wish(0, 1, 0, 1, -1), -1);
        due("wish: from 60001", p.wish(0, 1, 0, 1, 60001), -1);
        due("wish: none", p.count(3), 0);
        due("wish", p.wish(1, 0, 5, 200, 60000), 0);
        for (int k = 1; k < 24; k++) {
            due("wish", p.wish(0, 1, 0, 3, 2), k);
        }
        due("wish: 24", p.wish(0, 1, 0, 1, 0), -1);
        due("wish: count", p.count(3), 24);
        p.run(2);
        due("wish: not yet", p.count(4), 0);
        p.run(1);
        due("wish: due in its first", p.count(4), 23);
        p.run(2);
        due("wish: not in these", p.count(4), 23);
        p.run(1);
        due("wish: every three, and 23 came home", p.count(6), 23);
        due("wish: every three", p.count(4), 23);
    }

    private static void drop() {
        GrassPark p = lawn();
        due("drop: none such", p.drop(0), false);
        p.wish(0, 1, 0, 1, 0);
        p.wish(1, 0, 0, 1, 0);
        due("drop: below", p.drop(-1), false);
        due("drop: behind", p.drop(2), false);
        p.run(1);
        due("drop", p.drop(0), true);
        due("drop: no more", p.drop(0), false);
        due("drop: count", p.count(3), 1);
        due("drop: its walkers go on", p.walker(0, 1), 0);
        p.run(2);
        due("drop: no more begin", p.count(4), 4);
        due("drop: the next number", p.wish(0, 1, 0, 1, 0), 2);
        due("drop: 1 is", p.drop(1), true);
        due("drop: 2 is", p.drop(2), true);
        due("drop: none", p.count(3), 0);
    }

    private static void run() {
        GrassPark p = lawn();
        due("run: 0", p.run(0), -1);
        due("run: 401", p.run(401), -1);
        due("run: below", p.run(-3), -1);
        due("run: far", p.run(Integer.MAX_VALUE), -1);
        p.wish(0, 1, 0, 5, 0);
        due("run: three steps", p.run(3), 0);
        due("run: there", p.walker(0, 0), 3);
        due("run: the fourth", p.run(1), 1);
        due("run: gone", p.count(4), 0);
        due("run: arrived", p.count(6), 1);
        for (int i = 1; i <= 4; i++) {
            due("run: a step wears", p.cell(i, 3), 5);
            due("run: trod", p.cell(i, 5), 1);
            due("run: snow", p.cell(i, 6), 1);
        }
        due("run: no step on the first", p.cell(0, 3), 0);
        due("run: tick", p.count(5), 4);
        p.drop(0);
        for (int i = 0; i < 149; i++) {
            due("run: nobody", p.run(400), 0);
        }
        due("run: behind the last", p.run(397), -1);
        due("run: to the last", p.run(396), 0);
        due("run: tick", p.count(5), 60000);
        due("run: no more", p.run(1), -1);
    }

    /** Somebody who can't move at all, one in each TICK. */
    private static void crowdedRun() {
        GrassPark p = lawn();
        due("stay: habit", Check.habit(p, 2, "never wear < 999 or wear = 999;"), 1);
        p.wish(0, 1, 2, 1, 0);
        p.run(60);
        due("stay: walkers", p.count(4), 60);
        due("stay: away", p.count(8), 0);
        due("stay: no steps", p.cell(0, 5) + p.cell(1, 5), 0);
        p.run(139);
        due("stay: away", p.count(8), 139);
        due("stay: none is lost yet", p.count(7), 0);
        due("stay: the first", p.walker(0, 2), 199);
        p.run(1);
        due("stay: away", p.count(8), 140);
        due("stay: lost", p.count(7), 1);
        due("stay: walkers", p.count(4), 59);
        due("stay: now the second is the first", p.walker(0, 2), 199);
        p.run(1);
        due("stay: one more begins", p.walker(58, 2), 1);
        due("stay: lost", p.count(7), 2);
        due("stay: away", p.count(8), 140);
        due("stay: nobody arrives", p.count(6), 0);
        // the CELL of the goal is stepped on, whatever is never
        GrassPark q = Check.park("....", "....", "....", "....");
        q.door(0);
        q.door(5);
        Check.habit(q, 0, "never grass;");
        q.wish(0, 1, 0, 200, 0);
        due("stay: but for the goal", q.run(1), 1);
    }

    private static void week() {
        GrassPark p = lawn();
        due("week: law", Check.law(p, "wear 99; line 40; grow 30 if wear > 50; grow 3 if wet > 0; dry 7;"), 5);
        p.rain(11);
        p.wish(0, 1, 0, 200, 0);
        p.run(4);
        due("week", p.week(), 4);
        due("week: the first that holds", p.cell(1, 3), 69);
        due("week: dry", p.cell(1, 4), 4);
        due("week: trod", p.cell(1, 5), 0);
        due("week: snow stays", p.cell(1, 6), 1);
        due("week: next", p.week(), 0);
        due("week: wear", p.cell(1, 3), 39);
        due("week: not below 0", p.cell(1, 4), 0);
        due("week: 10 without one", p.week(), 0);
        due("week: wear", p.cell(1, 3), 29);
        for (int i = 0; i < 3; i++) {
            p.week();
        }
        due("week: not below 0", p.cell(1, 3), 0);
        due("week: tick stays", p.count(5), 4);
    }

    private static void rain() {
        GrassPark p = Check.park(".gbT", "psF.", "....", "....");
        due("rain: 0", p.rain(0), false);
        due("rain: 201", p.rain(201), false);
        due("rain: below", p.rain(-1), false);
        due("rain", p.rain(150), true);
        int[] wet = {150, 150, 150, 0, 0, 0, 0, 150};
        for (int c = 0; c < 8; c++) {
            due("rain: cell " + c, p.cell(c, 4), wet[c]);
        }
        p.rain(49);
        due("rain: 199", p.cell(0, 4), 199);
        p.rain(200);
        due("rain: 200 at most", p.cell(0, 4), 200);
    }

    private static void snow() {
        GrassPark p = lawn();
        p.wish(0, 1, 0, 1, 0);
        p.run(5);
        due("snow: since the park", p.cell(1, 6), 5);
        p.snow();
        due("snow: falls", p.cell(1, 6), 0);
        due("snow: trod stays", p.cell(1, 5), 5);
        due("snow: wear stays", p.cell(1, 3), 25);
        p.run(2);
        p.week();
        due("snow: all steps since", p.cell(1, 6), 2);
    }

    private static void lay() {
        GrassPark p = lawn();
        p.wish(0, 1, 0, 200, 0);
        p.rain(30);
        p.run(2);
        due("lay: no cell", p.lay(-1, 0), false);
        due("lay: no cell", p.lay(20, 0), false);
        due("lay: no kind", p.lay(0, 7), false);
        due("lay: no kind", p.lay(0, -1), false);
        due("lay: tree on a door", p.lay(0, 3), false);
        due("lay: fence on a walker", p.lay(2, 6), false);
        due("lay: bed", p.lay(1, 2), true);
        due("lay: wear stays", p.cell(1, 3), 5);
        due("lay: paved", p.lay(1, 4), true);
        due("lay: wear is 0", p.cell(1, 3), 0);
        due("lay: wet stays", p.cell(1, 4), 30);
        due("lay: trod stays", p.cell(1, 5), 1);
        due("lay: gravel on a door", p.lay(0, 1), true);
        due("lay: steps under a walker", p.lay(2, 5), true);
        due("lay: kind", p.cell(2, 0), 5);
        due("lay: tree", p.lay(3, 3), true);
        due("lay: no door now", p.door(3), -1);
        p.run(1);
        due("lay: round the tree", p.walker(0, 0), 8);
        due("lay: fence where a walker was", p.lay(2, 6), true);
        due("lay: kind", p.cell(2, 0), 6);
    }

    private static void cell() {
        GrassPark p = lawn();
        Check.noCell(p, -1, 0);
        Check.noCell(p, 20, 0);
        Check.noCell(p, 0, -1);
        Check.noCell(p, 0, 9);
        Check.noCell(p, Integer.MIN_VALUE, Integer.MAX_VALUE);
        due("cell: law", Check.law(p, "wear 990; wear 3; line 700; mud 200;"), 4);
        p.wish(0, 1, 0, 1, 0);
        p.run(2);
        due("cell: 999 at most", p.cell(1, 3), 999);
        due("cell: worn", p.cell(1, 7), 1);
        p.rain(199);
        due("cell: not muddy", p.cell(1, 8), 0);
        p.rain(1);
        due("cell: muddy", p.cell(1, 8), 1);
        due("cell: wet, but not worn", p.cell(10, 8), 0);
        Check.law(p, "line 999;");
        due("cell: by the law of now", p.cell(1, 7), 1);
        due("cell: by the law of now", p.cell(2, 7), 0);
    }

    private static void walker() {
        GrassPark p = lawn();
        p.wish(0, 1, 0, 2, 0);
        p.wish(1, 0, 0, 2, 1);
        p.run(3);
        int[][] want = {{3, 0, 3}, {2, 1, 2}, {1, 0, 1}};
        for (int k = 0; k < 3; k++) {
            for (int what = 0; what < 3; what++) {
                due("walker " + k + ", " + what, p.walker(k, what), want[k][what]);
            }
        }
        due("walker: none such", p.walker(3, 0), -1);
        due("walker: below", p.walker(-1, 0), -1);
        due("walker: another what", p.walker(0, 3), -1);
        due("walker: another what", p.walker(0, -1), -1);
        p.run(1);
        due("walker: the next is first", p.walker(0, 1), 1);
    }

    private static void netAndPieces() {
        GrassPark p = Check.park("......", "..TT..", "......", "......");
        p.door(0);
        p.door(2);
        p.door(18);
        p.door(20);
        Check.law(p, "wear 40;");
        p.wish(0, 1, 0, 200, 0);
        p.wish(2, 3, 0, 200, 0);
        p.run(5);
        due("net", p.net(), 4);
        due("pieces: two", p.pieces(), 2);
        p.door(7);
        p.door(12);
        p.wish(4, 5, 0, 200, 5);
        p.run(1);
        due("net", p.net(), 5);
        due("pieces: aslant they hang together", p.pieces(), 2);
        p.wish(5, 4, 0, 200, 6);
        p.run(1);
        due("net", p.net(), 6);
        due("pieces: one", p.pieces(), 1);
    }

    /** Behind so many WEEKS, by going on and back: each NET as a text. */
    private static String[] nets(GrassPark p, int weeks, int ticks) {
        String[] nets = new String[weeks + 1];
        p.image(2);
        for (int n = 0; n <= weeks; n++) {
            StringBuilder net = new StringBuilder();
            for (int c = 0; c < p.count(0) * p.count(1); c++) {
                net.append(p.cell(c, 7));
            }
            nets[n] = net.toString();
            p.run(ticks);
            p.week();
        }
        p.restore(2);
        return nets;
    }

    /** A lawn where lines come and go: many habits, many wishes. */
    private static GrassPark busy(int turn) {
        GrassPark p = Check.park("........", "..b.....", "....T...", ".g...F..", "........", "...pp...", ".....s..");
        int[] doors = {0, 7, 48, 55, 27};
        for (int c : doors) {
            p.door(c);
        }
        Check.law(p, "line 30; wear 9 if bed; wear " + (4 + turn % 5) + "; grow " + (6 + turn % 7)
            + " if wear < " + (30 + turn) + "; grow 3;");
        Check.habit(p, 0, "weigh line 3 if not bed; weigh green 1; sight 4;");
        Check.habit(p, 1, "weigh turn 4; weigh line 5; weigh crowd 7; never bed;");
        p.wish(0, 3, 0, 3 + turn % 4, 0);
        p.wish(2, 1, 1, 4 + turn % 3, 1);
        p.wish(4, 2, turn % 2, 5, 2);
        p.wish(1, 3, 1, 6, 0);
        p.run(1 + 5 * (turn % 6));
        return p;
    }

    private static void rests() {
        GrassPark p = lawn();
        due("rests: 0 weeks", p.rests(0, 1), -2);
        due("rests: 41 weeks", p.rests(41, 1), -2);
        due("rests: 0 ticks", p.rests(1, 0), -2);
        due("rests: 201 ticks", p.rests(1, 201), -2);
        due("rests: at once", p.rests(40, 200), 1);
        p.wish(0, 1, 0, 10, 0);
        due("rests: nothing comes of it", p.rests(5, 10), 1);
        Check.law(p, "wear 50;");
        due("rests: in the second", p.rests(5, 10), 2);
        due("rests: not in one", p.rests(1, 10), -1);
        due("rests: nothing stays of it", p.count(5) + p.count(4) + p.net(), 0);
        for (int turn = 0; turn < 12; turn++) {
            GrassPark q = busy(turn);
            String[] nets = nets(q, 8, 20);
            int want = -1;
            for (int n = 8; n >= 1; n--) {
                want = nets[n].equals(nets[n - 1]) ? n : want;
            }
            due("rests: by going on " + turn, q.rests(8, 20), want);
        }
    }

    private static void least() {
        GrassPark p = Check.park("....", "gggg", "TTTT", "....");
        p.door(0);
        p.door(3);
        p.door(12);
        p.door(4);
        p.door(7);
        Check.bytes(p, 0, 1);
        due("least: over the gravel", p.least(), 21 + 21 + 2);
        due("least: tape", p.count(9), 0);
        Check.bytes(p, 0, 1, 3, 4);
        due("least: four", p.least(), 46);
        Check.bytes(p, 3, 4);
        due("least: gravel alone", p.least(), 4);
        Check.bytes(p, 0, 2);
        due("least: there is none", p.least(), -1);
        int[][] odd = {{}, {0}, {0, 0}, {0, 5}, {0, 255}, {0, 1, 2, 3, 4, 0}, {0, 1, 2, 3, 4, 5, 6}};
        for (int[] tape : odd) {
            Check.bytes(p, tape);
            due("least: not as told", p.least(), -2);
            due("least: tape", p.count(9), 0);
        }
    }

    /** All sets of the CELLS of a small PARK, by the very words of LEAST. */
    private static void leastByAllSets() {
        String[][] parks = {
            {"....", ".TT.", ".gg.", "...."}, {"b.g.", ".F.T", "g.T.", "..pp"}, {".s.s", "s.s.", ".s.s", "s.s."},
            {"....", "....", "....", "...."}, {".T.g", "TT.g", "..gg", "g..."}, {"gTgT", "TgTg", "gTgT", "TgTg"}};
        int[][] doors = {{0, 3, 12, 15}, {0, 2, 14, 12, 4}, {1, 8, 10, 15, 5, 6}, {0, 15, 3}, {0, 3, 13}, {0, 7, 13, 8}};
        for (int n = 0; n < parks.length; n++) {
            GrassPark p = Check.park(parks[n]);
            int need = 0;
            int[] tape = new int[0];
            for (int c : doors[n]) {
                int k = p.door(c);
                if (k >= 0) {
                    need |= 1 << c;
                    tape = java.util.Arrays.copyOf(tape, tape.length + 1);
                    tape[tape.length - 1] = k;
                }
            }
            Check.bytes(p, tape);
            due("least: of all sets, park " + n, p.least(), tape.length < 2 ? -2 : leastOfSets(String.join("", parks[n]), need));
        }
    }

    private static int leastOfSets(String cells, int need) {
        int best = Integer.MAX_VALUE;
        for (int set = 1; set < 1 << 16; set++) {
            int cost = 0;
            boolean may = (set & need) == need;
            for (int c = 0; c < 16 && may; c++) {
                if ((set >> c & 1) == 1) {
                    char k = cells.charAt(c);
                    may = k != 'T' && k != 'F';
                    cost += k == '.' || k == 'b' ? 21 : 1;
                }
            }
            if (may && cost < best && hangs(set)) {
                best = cost;
            }
        }
        return best == Integer.MAX_VALUE ? -1 : best;
    }

    private static boolean hangs(int set) {
        int reached = Integer.lowestOneBit(set);
        for (int round = 0; round < 16; round++) {
            for (int a = 0; a < 16; a++) {
                for (int b = 0; b < 16; b++) {
                    boolean near = Math.abs(a % 4 - b % 4) <= 1 && Math.abs(a / 4 - b / 4) <= 1;
                    if (near && (reached >> a & 1) == 1 && (set >> b & 1) == 1) {
                        reached |= 1 << b;
                    }
                }
            }
        }
        return reached == set;
    }

    private static void longer() {
        GrassPark p = Check.park(".....", "gTTTg", "ggggs", ".....");
        p.door(0);
        p.door(4);
        due("longer: like doors", p.longer(1, 1), -2);
        due("longer: no door", p.longer(0, 2), -2);
        due("longer: no door", p.longer(-1, 0), -2);
        // 10 down, aslant, two on, aslant up, up: 10 + 14 + 20 + 14 + 10
        due("longer: round", p.longer(0, 1), 100 * 68 / 40);
        due("longer: back", p.longer(1, 0), 170);
        p.lay(10, 0);
        due("longer: aslant there", p.longer(0, 1), 170);
        p.lay(5, 0);
        due("longer: no such way", p.longer(0, 1), -1);
        Check.law(p, "wear 40;");
        p.wish(0, 1, 0, 200, 0);
        p.run(4);
        due("longer: the net of the lawn", p.longer(0, 1), 100);
        GrassPark q = Check.park("....", "TTTT", "....", "....");
        q.door(0);
        q.door(15);
        due("longer: none at all", q.longer(0, 1), -1);
        GrassPark r = Check.park("g...", ".g..", "..gT", "...g");
        r.door(0);
        r.door(15);
        due("longer: aslant all the way", r.longer(0, 1), 100);
        r.lay(10, 0);
        r.lay(14, 1);
        // 14 down to 5, then 9 or 10 is grass: no way to 14
        due("longer: a gap", r.longer(0, 1), -1);
        r.lay(9, 1);
        due("longer: cut", r.longer(0, 1), 100 * (14 + 10 + 14 + 10) / 42);
    }

    private static void turns() {
        GrassPark p = lawn();
        due("turns: no habit", p.turns(6, 1, 1, 1), -2);
        due("turns: no habit", p.turns(-1, 1, 1, 1), -2);
        due("turns: 0 weeks", p.turns(0, 0, 1, 1), -2);
        due("turns: 5 weeks", p.turns(0, 5, 1, 1), -2);
        due("turns: 0 ticks", p.turns(0, 1, 0, 1), -2);
        due("turns: 101 ticks", p.turns(0, 1, 101, 1), -2);
        due("turns: no weigh line", p.turns(0, 4, 100, 20), -1);
        Check.habit(p, 0, "weigh line 7;");
        due("turns: nothing is worn", p.turns(0, 4, 100, 0), 0);
        due("turns: fewer than none", p.turns(0, 4, 100, -1), -1);
        for (int turn = 0; turn < 10; turn++) {
            GrassPark q = busy(turn);
            int[] cells = new int[10];
            for (int n = 0; n <= 9; n++) {
                Check.habit(q, 1, "weigh turn 4; weigh line " + n + "; weigh line 2 if worn; weigh crowd 7; never bed;");
                q.image(1);
                for (int k = 0; k < 3; k++) {
                    q.run(25);
                    q.week();
                }
                cells[n] = q.net();
                q.restore(1);
            }
            int way = q.way(0, 3, 1);
            for (int most = 0; most < 40; most += 3) {
                int want = -1;
                for (int n = 9; n >= 0; n--) {
                    want = cells[n] <= most ? n : want;
                }
                due("turns: by going on " + turn, q.turns(1, 3, 25, most), want);
            }
            due("turns: the habit stays", q.way(0, 3, 1), way);
        }
    }

    private static void paved() {
        GrassPark p = lawn();
        int[][] odd = {{0, 1, 1, 0}, {2, 1, 1, 0}, {1, 21, 1, 0}, {1, 0, 1, 0}, {1, 1, 0, 0}, {1, 1, 201, 0},
            {1, 1, 1, 3}, {1, 1, 1, -1}};
        for (int[] a : odd) {
            due("paved: not as told", p.paved(a[0], a[1], a[2], a[3]), -1);
        }
        due("wait: 0 weeks", p.wait(0, 1), -1);
        due("wait: 21 weeks", p.wait(21, 1), -1);
        due("wait: 0 ticks", p.wait(1, 0), -1);
        due("wait: 201 ticks", p.wait(1, 201), -1);
        due("paved: nothing", p.paved(20, 20, 200, 0), 0);
        due("wait: nothing", p.wait(20, 200), 1);
        for (int turn = 0; turn < 12; turn++) {
            GrassPark q = busy(turn);
            String[] nets = nets(q, 7, 17);
            int best = 0;
            int least = Integer.MAX_VALUE;
            for (int w = 1; w <= 7; w++) {
                int all = 0;
                int soon = 0;
                int missed = 0;
                for (int c = 0; c < nets[w].length(); c++) {
                    boolean then = nets[w].charAt(c) == '1';
                    boolean last = nets[7].charAt(c) == '1';
                    all += then ? 1 : 0;
                    soon += then && !last ? 1 : 0;
                    missed += last && !then ? 1 : 0;
                }
                due("paved: all " + turn, q.paved(w, 7, 17, 0), all);
                due("paved: too soon " + turn, q.paved(w, 7, 17, 1), soon);
                due("paved: missed " + turn, q.paved(w, 7, 17, 2), missed);
                if (soon + missed + w < least) {
                    least = soon + missed + w;
                    best = w;
                }
            }
            due("wait: by going on " + turn, q.wait(7, 17), best);
        }
    }

    private static void fences() {
        GrassPark p = Check.park(".....", ".TTT.", ".....", ".....");
        p.door(0);
        p.door(4);
        p.wish(0, 1, 0, 10, 0);
        Check.bytes(p, 1);
        due("fences: no cell", p.fences(20, 1), -2);
        due("fences: tape", p.count(9), 0);
        int[][] odd = {{}, {0}, {6}, {20}, {255}, {1, 4}, {1, 2, 3, 5, 9, 10, 11, 12, 13, 14, 15, 16, 17}};
        for (int[] tape : odd) {
            Check.bytes(p, tape);
            due("fences: not as told", p.fences(2, 1), -2);
        }
        for (int ticks : new int[] {0, 101, -1}) {
            Check.bytes(p, 1);
            due("fences: ticks", p.fences(2, ticks), -2);
        }
        due("fences: ahead of any", p.fenceAt(0), -1);
        Check.bytes(p, 12, 3, 1, 2);
        due("fences: one", p.fences(2, 20), 1);
        due("fences: 3 would be stepped up to by 2", p.fenceAt(0), 1);
        due("fences: one alone", p.fenceAt(1), -1);
        due("fences: below", p.fenceAt(-1), -1);
        Check.bytes(p, 12);
        due("fences: don't do", p.fences(2, 20), -1);
        due("fences: the latest that was 0 or above", p.fenceAt(0), 1);
        Check.bytes(p, 12);
        due("fences: not yet there", p.fences(2, 1), 0);
        due("fences: none", p.fenceAt(0), -1);
        Check.bytes(p, 10, 11, 5, 1, 16, 15);
        due("fences: two", p.fences(4, 20), 2);
        // at 5 the walker turns back to 0, if 11 is shut: 1 and 5 would do too, but come behind
        due("fences: the first pair", p.fenceAt(0), 11);
        due("fences: the first pair", p.fenceAt(1), 1);
        due("fences: nothing stays of it", p.cell(1, 0) + p.cell(5, 0) + p.count(5), 0);
        p.run(2);
        Check.bytes(p, 2);
        due("fences: a walker is there", p.fences(4, 20), -2);
        Check.bytes(p, 3, 3);
        due("fences: the told cell itself", p.fences(3, 20), 1);
        Check.bytes(p, 12, 13, 10, 11, 14, 15, 16, 17, 18, 19, 5, 9);
        due("fences: twelve", p.fences(3, 100), -1);
    }

    private static void lasts() {
        GrassPark p = lawn();
        p.wish(0, 1, 0, 10, 0);
        p.wish(1, 0, 0, 10, 0);
        Check.law(p, "wear 30; line 40;");
        due("lasts: not now", p.lasts(0, 1, 40, 200), 0);
        int[][] odd = {{-1, 0, 1, 1}, {2, 0, 1, 1}, {0, -1, 1, 1}, {0, 20, 1, 1}, {0, 1, 0, 1}, {0, 1, 41, 1},
            {0, 1, 1, 0}, {0, 1, 1, 201}};
        for (int[] a : odd) {
            due("lasts: not as told", p.lasts(a[0], a[1], a[2], a[3]), -2);
        }
        p.run(20);
        due("lasts: worn", p.cell(2, 3), 120);
        // one more of each goes over it in ten TICKS: 120 + 30 - 10 and so on
        due("lasts: longer", p.lasts(0, 2, 40, 10), -1);
        p.drop(1);
        // 120, 110, .. 30
        due("lasts: without the other", p.lasts(0, 2, 40, 10), 9);
        due("lasts: in just so many", p.lasts(0, 2, 9, 10), 9);
        due("lasts: in fewer", p.lasts(0, 2, 8, 10), -1);
        due("lasts: no such wish now", p.lasts(1, 2, 9, 10), -2);
        due("lasts: the wish stays", p.count(3), 1);
        due("lasts: the other cell", p.lasts(0, 1, 40, 1), p.cell(1, 7) == 1 ? (p.cell(1, 3) - 40) / 10 + 1 : 0);
    }

    private static void way() {
        GrassPark p = lawn();
        due("way: like doors", p.way(0, 0, 0), -2);
        due("way: no door", p.way(0, 2, 0), -2);
        due("way: no habit", p.way(0, 1, 6), -2);
        due("way: no habit", p.way(0, 1, -1), -2);
        due("way: ahead of any", p.wayAt(0), -1);
        due("way", p.way(0, 1, 0), 4);
        for (int k = 0; k <= 4; k++) {
            due("wayAt", p.wayAt(k), k);
        }
        due("wayAt: behind", p.wayAt(5), -1);
        due("wayAt: below", p.wayAt(-1), -1);
        due("way: not as told", p.way(1, 1, 0), -2);
        due("wayAt: the latest that was", p.wayAt(4), 4);
        due("way: wears nothing", p.cell(1, 3) + p.cell(1, 5) + p.cell(1, 6), 0);
        Check.habit(p, 1, "never grass;");
        due("way: lost", p.way(0, 1, 1), -1);
        due("wayAt: the door", p.wayAt(0), 0);
        due("wayAt: no step", p.wayAt(1), -1);
        Check.habit(p, 2, "weigh turn 50; weigh line 40; weigh come 9;");
        due("way: others", p.way(1, 0, 2), 4);
        // to and fro for ever, so just as many steps as TICKS
        GrassPark q = Check.park(".....", "..T..", "..T..", "TTT..");
        q.door(5);
        q.door(9);
        q.lay(2, 6);
        due("way: to and fro", q.way(0, 1, 0), -1);
        due("wayAt: 200", q.wayAt(200) >= 0, true);
        due("wayAt: 201", q.wayAt(201), -1);
        // nobody else counts
        p.wish(0, 1, 1, 1, 0);
        p.run(50);
        Check.habit(p, 3, "weigh crowd 99;");
        due("way: alone", p.way(1, 0, 3), 4);
    }

    private static void read() {
        GrassPark p = lawn();
        p.door(19);
        Check.habit(p, 1, "weigh wear 0;");
        int[][] odd = {{}, {0}, {0, 1}, {0, 1, 0, 0}, {0, 0, 0}, {0, 1, 6}, {0, 3, 0}, {255, 1, 0},
            {0, 1, 0, 0, 1, 0, 0, 1, 0, 0, 1, 0, 0, 1, 0, 0, 1, 0}};
        for (int[] tape : odd) {
            Check.bytes(p, tape);
            due("read: not as told", p.read(), -1);
            due("read: tape", p.count(9), 0);
        }
        Check.habit(p, 2, "never grass;");
        Check.bytes(p, 0, 1, 2);
        due("read: does not arrive", p.read(), -1);
        due("reads: ahead of any", p.reads(0, 0), -1);
        Check.bytes(p, 0, 1, 0);
        due("read: no steps at all", p.read(), 1);
        due("reads: none", p.reads(0, 1), 0);
        Check.law(p, "wear 0;");
        p.snow();
        p.wish(0, 1, 0, 1, 0);
        p.run(9);
        p.drop(0);
        p.run(10);
        Check.bytes(p, 0, 1, 0);
        due("read: nine", p.read(), 1);
        due("reads: nine", p.reads(0, 0), 9);
        due("reads: nine", p.reads(0, 1), 9);
        due("reads: another what", p.reads(0, 2), -1);
        due("reads: another what", p.reads(0, -1), -1);
        due("reads: none such", p.reads(1, 0), -1);
        due("reads: below", p.reads(-1, 0), -1);
        Check.bytes(p, 0, 1, 0, 0, 1, 3, 0, 2, 0);
        due("read: 0 + 9 to 9 + 0", p.read(), 10);
        due("reads: at the least", p.reads(0, 0), 0);
        due("reads: at the most", p.reads(0, 1), 9);
        due("reads: nobody", p.reads(2, 1), 0);
        Check.bytes(p, 1, 0, 0);
        due("read: none", p.read(), 0);
        due("reads: of the latest above 0", p.reads(1, 1), 9);
        Check.bytes(p, 0, 1, 0, 0, 1, 0, 0, 1, 0, 0, 1, 0, 0, 1, 0);
        due("read: five like ones", p.read(), 715);
        p.wish(0, 1, 0, 1, 20);
        p.run(2);
        p.drop(1);
        p.run(10);
        Check.bytes(p, 0, 1, 0);
        due("read: ten or more", p.read(), 0);
        Check.bytes(p, 0, 1, 0, 0, 1, 0);
        due("read: ten or more by two", p.read(), p.cell(1, 6) == 10 ? 9 : -5);
        p.wish(0, 2, 0, 200, 32);
        p.run(20);
        Check.bytes(p, 0, 1, 0, 0, 1, 0, 0, 2, 0);
        due("read: one more", p.read(), 9);
        due("reads: the one", p.reads(2, 0), 1);
        due("reads: at the least", p.reads(0, 0), 1);
        due("reads: at the most", p.reads(1, 1), 9);
    }

    private static void fits() {
        GrassPark p = lawn();
        Check.habit(p, 3, "never grass;");
        Check.habit(p, 5, "weigh height 1;");
        Check.bytes(p, 1, 2, 3, 4);
        due("fits: all but one", p.fits(0, 1), 63 - 8);
        due("fits: tape", p.count(9), 0);
        Check.bytes(p, 1, 2, 3);
        due("fits: too few", p.fits(0, 1), 0);
        Check.bytes(p, 1, 2, 3, 4, 4);
        due("fits: too many", p.fits(0, 1), 0);
        Check.bytes(p, 1, 2, 8, 4);
        due("fits: another", p.fits(0, 1), 0);
        Check.bytes(p, 1, 2, 3, 4);
        due("fits: back", p.fits(1, 0), 0);
        Check.bytes(p, 1);
        due("fits: like doors", p.fits(0, 0), -1);
        due("fits: tape", p.count(9), 0);
        Check.bytes(p, 1);
        due("fits: no door", p.fits(0, 2), -1);
        Check.bytes(p);
        due("fits: no byte", p.fits(0, 1), -1);
        Check.tape(p, "\1".repeat(201));
        due("fits: 201", p.fits(0, 1), -1);
        Check.tape(p, "\1".repeat(200));
        due("fits: 200", p.fits(0, 1), 0);
        Check.bytes(p, 255);
        due("fits: no such cell", p.fits(0, 1), 0);
    }

    private static void image() {
        GrassPark p = lawn();
        due("image: below", p.image(-1), false);
        due("image: behind", p.image(3), false);
        due("restore: nothing", p.restore(0), false);
        due("restore: below", p.restore(-1), false);
        due("restore: behind", p.restore(3), false);
        Check.habit(p, 2, "never grass;");
        p.wish(0, 1, 0, 3, 0);
        p.wish(0, 1, 2, 50, 0);
        p.rain(20);
        p.run(205);
        due("image", p.image(1), true);
        String kept = all(p);
        p.run(7);
        String on = all(p);
        due("restore", p.restore(1), true);
        due("restore: as kept", all(p).equals(kept), true);
        p.run(7);
        due("restore: goes on alike", all(p).equals(on), true);
        p.drop(0);
        p.lay(9, 4);
        p.snow();
        Check.tape(p, "\1".repeat(16));
        p.park(4, 4);
        p.door(3);
        p.feed(1, 2, 3, 4, 5);
        due("image: another", p.image(0), true);
        due("restore: another shape", p.restore(1), true);
        due("restore: as kept", all(p).equals(kept), true);
        due("restore: the tape stays", p.count(9), 20);
        due("restore: back", p.restore(0), true);
        due("restore: w", p.count(0), 4);
        due("restore: doors", p.count(2), 1);
        due("restore: nothing in 2", p.restore(2), false);
        p.restore(1);
        p.run(7);
        due("restore: goes on alike", all(p).equals(on), true);
    }

    /** What was counted is kept too, TURNED AWAY among it. */
    private static void imageOfCounts() {
        GrassPark p = lawn();
        Check.habit(p, 2, "never grass;");
        p.wish(0, 1, 2, 1, 0);
        p.run(201);
        due("image: turned away", p.count(8), 140);
        p.image(0);
        p.run(7);
        p.drop(0);
        p.restore(0);
        due("restore: turned away", p.count(8), 140);
        due("restore: lost", p.count(7), 2);
        due("restore: wishes that are", p.count(3), 1);
        Check.bytes(p, new int[16]);
        p.park(4, 4);
        due("park: turned away", p.count(8), 0);
        due("park: lay a tree where walkers were", p.lay(0, 3), true);
    }

    private static String all(GrassPark p) {
        StringBuilder b = new StringBuilder();
        for (int what = 0; what < 9; what++) {
            b.append(p.count(what)).append(' ');
        }
        for (int c = 0; c < p.count(0) * p.count(1); c++) {
            for (int what = 0; what < 9; what++) {
                b.append(p.cell(c, what)).append(' ');
            }
        }
        for (int k = 0; k < p.count(4); k++) {
            b.append(p.walker(k, 0)).append(' ').append(p.walker(k, 1)).append(' ').append(p.walker(k, 2)).append(' ');
        }
        return b.toString();
    }

    private static void count() {
        GrassPark p = lawn();
        p.wish(0, 1, 0, 1, 0);
        p.wish(1, 0, 0, 1, 0);
        p.drop(1);
        p.run(6);
        p.feed(0, 0, 0, 0, 0);
        int[] want = {5, 4, 2, 1, 3, 6, 3, 0, 0, 20, -1};
        for (int what = 0; what < want.length; what++) {
            due("count " + what, p.count(what), want[what]);
        }
        due("count: below", p.count(-1), -1);
        due("count: far", p.count(Integer.MAX_VALUE), -1);
    }
}
