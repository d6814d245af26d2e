import java.util.Arrays;
import java.util.function.Consumer;

/** 'Terms' of the document, sentence by sentence: each number at its edge, by the answers of calls. */
public final class TermsTest {
    private static final Consumer<GrassPark> AS_IT_IS = p -> { };

    public static void main(String[] args) {
        numbersOfCells();
        bytesOfCells();
        wornAndMuddy();
        lawWithoutLines();
        conds();
        condsChange();
        manyTexts();
        tokensAtTheirMost();
        ticks();
        sixty();
        ways();
        likeOnes();
        stays();
        twoHundredth();
        gone();
        distances();
        green();
        wet();
        climb();
        crowd();
        turn();
        come();
        line();
        sums();
        stepsWear();
        weeks();
        System.exit(Check.end("terms"));
    }

    private static void due(String what, long got, long want) {
        Check.due(what, got, want);
    }

    private static void due(String what, boolean got, boolean want) {
        Check.due(what, got, want);
    }

    // ---- grounds

    /** CELLS of grass, but for those told: a number, then its byte. */
    private static GrassPark ground(int w, int h, int... told) {
        int[] cells = new int[w * h];
        for (int i = 0; i < told.length; i += 2) {
            cells[told[i]] = told[i + 1];
        }
        GrassPark p = new GrassPark();
        Check.bytes(p, cells);
        due("a ground", p.park(w, h), true);
        return p;
    }

    private static void doors(GrassPark p, int... cells) {
        for (int c : cells) {
            due("a door on " + c, p.door(c) >= 0, true);
        }
    }

    /** Five by five, from DOOR 0 on 10 to DOOR 1 on 14: behind 11 it is 30 on, behind 6 (paved) and 16 it is 34. */
    private static GrassPark field(int eleven, int... told) {
        int[] all = Arrays.copyOf(told, told.length + 4);
        all[told.length] = 6;
        all[told.length + 1] = 4;
        all[told.length + 2] = 11;
        all[told.length + 3] = eleven;
        GrassPark p = ground(5, 5, all);
        doors(p, 10, 14, 11);
        return p;
    }

    private static int firstStep(GrassPark p, String habit) {
        due("habit " + habit, Check.habit(p, 0, habit) >= 0, true);
        p.way(0, 1, 0);
        return p.wayAt(1);
    }

    /** One step from 10 on 11 that wears by so much. */
    private static void wear11(GrassPark p, int wear) {
        Check.law(p, "wear " + wear + ";");
        int k = p.wish(0, 2, 5, 200, p.count(5));
        due("a step on 11", p.run(1), 1);
        p.drop(k);
    }

    /** How much a HABIT adds to the weight of 11: 6 is as heavy, if 11 is so much higher. */
    private static int added(String habit, int kind, Consumer<GrassPark> before) {
        for (int h = 0; h < 16; h++) {
            GrassPark p = field(kind + 16 * h);
            before.accept(p);
            if (firstStep(p, "weigh climb 1; " + habit) == 6) {
                return 4 - h;
            }
        }
        return -99;
    }

    private static boolean holds(String cond, int eleven, Consumer<GrassPark> before) {
        GrassPark p = field(eleven);
        before.accept(p);
        return firstStep(p, "never " + cond + ";") != 11;
    }

    private static Consumer<GrassPark> worn(int wear, String law) {
        return p -> {
            wear11(p, wear);
            due("law " + law, Check.law(p, law) >= 0, true);
        };
    }

    // ---- 1

    private static void numbersOfCells() {
        GrassPark p = ground(5, 4);
        doors(p, 4, 5, 6, 11);
        due("4 and 5 are rows apart", p.way(0, 1, 0), 4);
        due("6 and 11 are beside", p.way(2, 3, 0), 1);
        GrassPark q = ground(4, 5);
        doors(q, 3, 4, 6, 11);
        due("3 and 4 are rows apart", q.way(0, 1, 0), 3);
        due("6 and 11 are aslant", q.way(2, 3, 0), 1);
        for (int[] shape : new int[][] {{4, 4}, {4, 16}, {16, 4}, {16, 16}, {5, 7}}) {
            GrassPark r = ground(shape[0], shape[1]);
            int last = shape[0] * shape[1] - 1;
            Check.noCell(r, last + 1, 0);
            due("the last cell", r.cell(last, 0), 0);
            doors(r, 0, last);
            due("from corner to corner", r.way(0, 1, 0), Math.max(shape[0], shape[1]) - 1);
            due("and back", r.way(1, 0, 0), Math.max(shape[0], shape[1]) - 1);
            Check.law(r, "wear 40;");
            r.wish(0, 1, 0, 200, 0);
            r.wish(1, 0, 0, 200, 0);
            r.rain(7);
            due("both arrive", r.run(20), 2);
            due("the last is trod", r.cell(last, 5), 1);
            due("the last has snow", r.cell(last, 6), 1);
            due("the last is worn", r.cell(last, 7), 1);
            due("the last is wet", r.cell(last, 4), 7);
            due("the first is worn", r.cell(0, 7), 1);
            int net = r.net();
            due("the net has both", r.image(0) && r.lay(0, 1) && r.lay(last, 1), true);
            due("the net has both", r.net(), net - 2);
            r.restore(0);
            due("restored: the last is worn", r.cell(last, 7), 1);
        }
    }

    private static void bytesOfCells() {
        int[] told = new int[512];
        for (int i = 0; i < 256; i++) {
            told[2 * i] = i;
            told[2 * i + 1] = (i & 7) == 7 ? 0 : i;
        }
        GrassPark p = ground(16, 16, told);
        p.image(0);
        Check.bytes(p, new int[16]);
        p.park(4, 4);
        p.restore(0);
        for (int i = 0; i < 256; i++) {
            int b = (i & 7) == 7 ? 0 : i;
            due("kind of " + i, p.cell(i, 0), b % 8);
            due("sign of " + i, p.cell(i, 1), b / 8 % 2);
            due("height of " + i, p.cell(i, 2), b / 16);
            due("wear and wet of " + i, p.cell(i, 3) + p.cell(i, 4), 0);
        }
        for (int c : new int[] {3, 6, 11, 14, 243, 246, 251, 254}) {
            due("no door on " + c, p.door(c), -1);
        }
        doors(p, 0, 1, 2, 4, 5, 8, 249, 250, 253);
    }

    private static void wornAndMuddy() {
        GrassPark p = field(0);
        wear11(p, 40);
        int[][] wants = {{39, 1}, {40, 1}, {41, 0}};
        for (int[] want : wants) {
            Check.law(p, "line " + want[0] + ";");
            due("worn by line " + want[0], p.cell(11, 7), want[1]);
            due("the net by line " + want[0], p.net(), want[1]);
            due("pieces by line " + want[0], p.pieces(), want[1]);
        }
        p.rain(50);
        int[][] muds = {{49, 1}, {50, 1}, {51, 0}};
        for (int[] mud : muds) {
            Check.law(p, "mud " + mud[0] + ";");
            due("muddy by mud " + mud[0], p.cell(11, 8), mud[1]);
            due("not worn, so not muddy", p.cell(12, 8), 0);
        }
        Check.law(p, "line 41; mud 0;");
        due("not worn, so not muddy", p.cell(11, 8), 0);
        Check.law(p, "line 1; mud 0;");
        due("line 1: wear 0 is not worn", p.cell(12, 7), 0);
        due("line 1: wear 40 is", p.cell(11, 7), 1);
    }

    /** 5 and 10 for wear and grow, 40, 50, 10 for line, mud, dry, 3 for sight: also behind a LAW that had others. */
    private static void lawWithoutLines() {
        for (int turn = 0; turn < 2; turn++) {
            GrassPark p = field(0);
            if (turn == 1) {
                Check.law(p, "wear 7; grow 1; line 3; mud 9; dry 1;");
                due("the empty law", Check.law(p, ""), 0);
            }
            p.wish(0, 2, 0, 1, 0);
            p.run(1);
            due("5 without one", p.cell(11, 3), 5);
            p.run(6);
            due("35 are not worn", p.cell(11, 7), 0);
            p.run(1);
            due("40 without one", p.cell(11, 7), 1);
            p.rain(49);
            due("49 are not muddy", p.cell(11, 8), 0);
            p.rain(1);
            due("50 without one", p.cell(11, 8), 1);
            due("a week", p.week(), 0);
            due("10 without one", p.cell(11, 3), 30);
            due("dry 10 without one", p.cell(11, 4), 40);
        }
    }

    private static void conds() {
        String[] kinds = {"grass", "gravel", "bed", "tree", "paved", "steps"};
        for (int asked = 0; asked < 6; asked++) {
            for (int is = 0; is < 6; is++) {
                if (asked != 3 && is != 3) {
                    due(kinds[asked] + " of " + kinds[is], holds(kinds[asked], is, AS_IT_IS), asked == is);
                }
            }
        }
        due("sign", holds("sign", 8, AS_IT_IS), true);
        due("no sign", holds("sign", 0, AS_IT_IS), false);
        due("worn at line", holds("worn", 0, worn(40, "")), true);
        due("worn below line", holds("worn", 0, worn(39, "")), false);
        due("muddy at mud", holds("muddy", 0, worn(40, "").andThen(p -> p.rain(50))), true);
        due("muddy below mud", holds("muddy", 0, worn(40, "").andThen(p -> p.rain(49))), false);
        due("muddy below line", holds("muddy", 0, worn(39, "").andThen(p -> p.rain(50))), false);
        due("muddy by its law", holds("muddy", 0, worn(7, "line 7; mud 60;").andThen(p -> p.rain(60))), true);
        due("muddy by its law", holds("muddy", 0, worn(7, "line 7; mud 60;").andThen(p -> p.rain(59))), false);
        Consumer<GrassPark> wet = p -> p.rain(60);
        Consumer<GrassPark> trod = p -> {
            wear11(p, 30);
            wear11(p, 30);
            Check.law(p, "");
        };
        String[] words = {"height", "wet", "wear", "trod"};
        int[] are = {9, 60, 60, 2};
        for (int i = 0; i < 4; i++) {
            Consumer<GrassPark> before = i == 0 ? AS_IT_IS : i == 1 ? wet : trod;
            int eleven = i == 0 ? 16 * 9 : 0;
            for (int n = are[i] - 1; n <= are[i] + 1; n++) {
                due(words[i] + " < " + n, holds(words[i] + " < " + n, eleven, before), are[i] < n);
                due(words[i] + " = " + n, holds(words[i] + " = " + n, eleven, before), are[i] == n);
                due(words[i] + " > " + n, holds(words[i] + " > " + n, eleven, before), are[i] > n);
            }
            due(words[i] + " < 0", holds(words[i] + " < 0", eleven, before), false);
            due(words[i] + " > 999", holds(words[i] + " > 999", eleven, before), false);
            due(words[i] + " < 999", holds(words[i] + " < 999", eleven, before), true);
        }
        due("trod is 0 behind a week", holds("trod = 0", 0, trod.andThen(GrassPark::week)), true);
        due("trod is 0 behind a week", holds("trod > 0", 0, trod.andThen(GrassPark::week)), false);
        joined();
    }

    /** 'and' binds more than 'or', 'not' more than both: by all answers of three ONES. */
    private static void joined() {
        String[] yes = {"gravel", "sign", "height > 0"};
        for (int set = 0; set < 8; set++) {
            boolean a = (set & 1) != 0;
            boolean b = (set & 2) != 0;
            boolean c = (set & 4) != 0;
            int eleven = (a ? 1 : 0) + (b ? 8 : 0) + (c ? 16 : 0);
            String abc = " of " + a + b + c;
            due("a or b and c" + abc, holds(yes[0] + " or " + yes[1] + " and " + yes[2], eleven, AS_IT_IS), a || b && c);
            due("a and b or c" + abc, holds(yes[0] + " and " + yes[1] + " or " + yes[2], eleven, AS_IT_IS), a && b || c);
            due("(a or b) and c" + abc, holds("(" + yes[0] + " or " + yes[1] + ") and " + yes[2], eleven, AS_IT_IS), (a || b) && c);
            due("a and (b or c)" + abc, holds(yes[0] + " and (" + yes[1] + " or " + yes[2] + ")", eleven, AS_IT_IS), a && (b || c));
            due("not a or b" + abc, holds("not " + yes[0] + " or " + yes[1], eleven, AS_IT_IS), !a || b);
            due("not a and b" + abc, holds("not " + yes[0] + " and " + yes[1], eleven, AS_IT_IS), !a && b);
            due("not (a and b) and not c" + abc,
                holds("not (" + yes[0] + " and " + yes[1] + ") and not " + yes[2], eleven, AS_IT_IS), !(a && b) && !c);
            due("not not a" + abc, holds("not not " + yes[0], eleven, AS_IT_IS), a);
            due("a and b and c" + abc, holds(yes[0] + " and " + yes[1] + " and " + yes[2], eleven, AS_IT_IS), a && b && c);
            due("a or b or c" + abc, holds(yes[0] + " or " + yes[1] + " or " + yes[2], eleven, AS_IT_IS), a || b || c);
        }
    }

    /** A COND is asked anew at each step, in a run and in a CASE. */
    private static void condsChange() {
        GrassPark p = field(0);
        Check.habit(p, 0, "never trod > 0;");
        Check.habit(p, 1, "never trod > 0;");
        p.wish(0, 1, 0, 1, 0);
        p.run(2);
        due("the first on 11, then on 12", p.walker(0, 0), 12);
        due("the second not on 11", p.walker(1, 0), 6);
        p.run(1);
        due("the third not on 6", p.walker(2, 0), 16);
        GrassPark q = field(0);
        Check.law(q, "wear 40; grow 0;");
        Check.habit(q, 0, "never trod > 0;");
        q.wish(0, 1, 0, 1, 0);
        // WEEKS of one TICK: TROD is 0 in each, so all go by 11, 12, 13
        due("TROD is 0 in each week of a case", q.rests(9, 1), 5);
        GrassPark r = field(0);
        Check.law(r, "wear 40; grow 0;");
        Check.habit(r, 0, "never trod > 0;");
        r.wish(0, 1, 0, 1, 0);
        String[] nets = new String[6];
        for (int n = 0; n < 6; n++) {
            nets[n] = net(r);
            r.run(2);
            r.week();
        }
        GrassPark s = field(0);
        Check.law(s, "wear 40; grow 0;");
        Check.habit(s, 0, "never trod > 0;");
        s.wish(0, 1, 0, 1, 0);
        int want = -1;
        for (int n = 5; n >= 1; n--) {
            want = nets[n].equals(nets[n - 1]) ? n : want;
        }
        due("rests with what changes", s.rests(5, 2), want);
        for (int n = 1; n <= 5; n++) {
            int size = nets[n].replace("0", "").length();
            due("paved with what changes " + n, s.paved(n, 5, 2, 0), size);
        }
    }

    private static String net(GrassPark p) {
        StringBuilder net = new StringBuilder();
        for (int c = 0; c < p.count(0) * p.count(1); c++) {
            net.append(p.cell(c, 7));
        }
        return net.toString();
    }

    /** A text that was read leaves nothing for the next one, with a FAULT or without. */
    private static void manyTexts() {
        String forty = "never " + "bed or ".repeat(39) + "height = 3;";
        GrassPark p = field(16 * 3);
        for (int n = 0; n < 8; n++) {
            due("forty", Check.habit(p, n % 6, forty), 1);
            due("forty ones and one more", Check.habit(p, n % 6, forty + "never bed;"), -1 - forty.length() - 6);
            due("the text stays", firstStep(p, forty), 6);
        }
        due("sight once", Check.habit(p, 0, "sight 3;"), 1);
        due("sight once", Check.habit(p, 0, "sight 3;"), 1);
        due("line once", Check.law(p, "line 3; mud 3; dry 3;"), 3);
        due("line once", Check.law(p, "line 3; mud 3; dry 3;"), 3);
    }

    private static void tokensAtTheirMost() {
        due("400 tokens", Check.law(new GrassPark(), ";".repeat(400)), -1);
        due("440 tokens", Check.law(new GrassPark(), ";".repeat(440)), -1);
        due("a fault ahead of 390 tokens", Check.law(new GrassPark(), "wear 1 if " + "(".repeat(390)), -21);
        due("one in 440", Check.law(new GrassPark(), "wear 1 if " + "(".repeat(430)), -21);
        due("one long token", Check.law(new GrassPark(), "a".repeat(440)), -1);
        due("one long number", Check.law(new GrassPark(), "wear " + "1".repeat(435)), -6);
        for (int c = 0; c < 256; c++) {
            GrassPark p = new GrassPark();
            int first = Check.law(p, (char) c + "wear 5;");
            boolean blank = c == 32 || c == 10;
            due("ahead of a text: " + c, first, blank ? 1 : -1);
            boolean known = blank || c == ';';
            due("behind a text: " + c, Check.law(p, "wear 5" + (char) c + ";"), blank ? 1 : known ? -8 : c >= '0' && c <= '9' ? 1
                : c >= 'a' && c <= 'z' ? -6 : -7);
        }
    }

    // ---- 2

    private static void ticks() {
        GrassPark p = field(0);
        p.wish(0, 1, 0, 200, 3);
        p.run(3);
        due("tick 3 comes fourth", p.count(4), 0);
        p.run(1);
        due("it begins in tick 3, with a step in it", p.walker(0, 0), 11);
        due("it went one tick", p.walker(0, 2), 1);
        p.run(199);
        due("not in 4 to 202", p.count(4), 0);
        p.run(1);
        due("and 200 on", p.count(4), 1);
        GrassPark q = field(0);
        q.run(7);
        q.wish(0, 1, 0, 5, 1);
        q.run(4);
        due("first was ahead: 7 to 10 are not due", q.count(4), 0);
        q.run(1);
        due("11 is", q.count(4), 1);
        GrassPark r = field(0);
        r.wish(1, 0, 3, 2, 0);
        r.wish(0, 1, 4, 1, 0);
        r.run(1);
        due("wish by wish", r.walker(0, 1), 0);
        due("wish by wish", r.walker(1, 1), 1);
        r.run(2);
        int[] order = {0, 1, 1, 0, 1};
        for (int k = 0; k < 5; k++) {
            due("as they began: " + k, r.walker(k, 1), order[k]);
        }
        due("each habit", Check.habit(r, 5, "never grass;"), 1);
        for (int h = 0; h < 6; h++) {
            due("habit " + h, r.way(0, 1, h), h == 5 ? -1 : 4);
        }
    }

    /** There are 59, and two are due: the first begins, the second is TURNED AWAY. */
    private static void sixty() {
        GrassPark p = field(0);
        Check.habit(p, 1, "never wet < 999;");
        p.wish(0, 1, 1, 1, 0);
        p.run(59);
        due("59", p.count(4), 59);
        p.drop(0);
        p.wish(1, 0, 1, 200, 59);
        p.wish(0, 1, 1, 200, 59);
        p.run(1);
        due("60", p.count(4), 60);
        due("turned away", p.count(8), 1);
        due("wish 1 began", p.walker(59, 1), 1);
        due("none behind", p.walker(60, 1), -1);
        due("none of them stepped", p.cell(10, 5) + p.cell(14, 5) + p.cell(11, 5), 0);
    }

    /** The goal beside one is stepped on, from all eight around, whatever is heavy or never. */
    private static void ways() {
        int[] around = {7, 8, 13, 18, 17, 16, 11, 6};
        for (int c : around) {
            GrassPark p = ground(5, 5);
            doors(p, 12, c, 24);
            due("one step to " + c, p.way(0, 1, 0), 1);
            Check.habit(p, 1, "never grass; weigh green 99;");
            due("one step, never", p.way(0, 1, 1), 1);
            due("and back", p.way(1, 0, 1), 1);
        }
        // along each of the eight, three on
        int[][] far = {{24, 3}, {24, 6}, {24, 27}, {24, 48}, {24, 45}, {24, 42}, {24, 21}, {24, 0}};
        for (int[] way : far) {
            GrassPark p = ground(7, 7);
            doors(p, way);
            due("three steps to " + way[1], p.way(0, 1, 0), 3);
            due("one by one to " + way[1], p.wayAt(1), 24 + (way[1] - 24) / 3);
            due("one by one to " + way[1], p.wayAt(2), 24 + (way[1] - 24) / 3 * 2);
        }
    }

    /** Of two like ones the first from above on with the clock. */
    private static void likeOnes() {
        int[][] told = {
            // goal, shut, first
            {27, 25, 18}, {21, 23, 30}, {45, 31, 32}, {3, 17, 18},
            {6, 18, 17}, {0, 16, 17}, {48, 32, 25}, {42, 30, 31}};
        for (int[] t : told) {
            GrassPark p = ground(7, 7, t[1], 3);
            doors(p, 24, t[0]);
            p.way(0, 1, 0);
            due("like ones on the way to " + t[0], p.wayAt(1), t[2]);
            GrassPark q = ground(7, 7, t[1], 6);
            doors(q, 24, t[0]);
            q.wish(0, 1, 0, 200, 0);
            q.run(1);
            due("like ones for a walker to " + t[0], q.walker(0, 0), t[2]);
        }
    }

    private static void stays() {
        GrassPark p = ground(4, 4, 1, 3, 4, 6, 5, 3);
        doors(p, 0, 15);
        p.wish(0, 1, 0, 200, 0);
        p.run(5);
        due("it stays", p.walker(0, 0), 0);
        due("it goes on for ticks", p.walker(0, 2), 5);
        due("a stay is no step", p.cell(0, 3) + p.cell(0, 5) + p.cell(0, 6), 0);
        due("a stay is no step of a way", p.way(0, 1, 0), -1);
        due("the door", p.wayAt(0), 0);
        due("no more", p.wayAt(1), -1);
        p.lay(5, 0);
        p.run(1);
        due("now it can", p.walker(0, 0), 5);
        // 'never' shuts all, then a week opens
        GrassPark q = field(0);
        Check.habit(q, 0, "never wet > 0 or paved;");
        q.rain(10);
        q.wish(0, 1, 0, 200, 0);
        q.run(3);
        due("never: it stays", q.walker(0, 0), 10);
        q.week();
        q.run(1);
        due("never no more", q.walker(0, 0), 11);
    }

    /** 200 TICKS, then it is there or LOST. */
    private static void twoHundredth() {
        int[] waits = {195, 196, 197};
        for (int wait : waits) {
            GrassPark p = field(0);
            Check.habit(p, 0, "never wet < 999;");
            p.wish(0, 1, 0, 200, 0);
            p.run(wait);
            Check.habit(p, 0, "");
            int there = wait <= 196 ? 1 : 0;
            due("arrived, having waited " + wait, p.run(200 - wait), there);
            due("arrived, having waited " + wait, p.count(6), there);
            due("lost, having waited " + wait, p.count(7), 1 - there);
            due("gone, having waited " + wait, p.count(4), 0);
            due("its last step, having waited " + wait, p.cell(wait == 197 ? 13 : 14, 5), 1);
        }
        longWays();
    }

    /** The chain, from its CELL at such a place to its end, and a SIGN behind the first, which sends one the wrong way. */
    private static GrassPark chained(int place, boolean sign) {
        int[] chain = Check.chain();
        int[] cells = new int[256];
        Arrays.fill(cells, 3);
        for (int c : chain) {
            cells[c] = 0;
        }
        if (sign) {
            cells[chain[place + 1]] = 8;
        }
        GrassPark p = new GrassPark();
        Check.bytes(p, cells);
        due("the chain", p.park(16, 16), true);
        doors(p, chain[place], chain[chain.length - 1]);
        Check.law(p, "wear 0;");
        due("its habit", Check.habit(p, 0, "weigh come 99; weigh green 10 if sign;"), 2);
        return p;
    }

    private static void longWays() {
        int[] chain = Check.chain();
        int last = chain.length - 1;
        int just = 200 - last;
        for (int place = just - 1; place <= just + 1; place++) {
            GrassPark p = chained(place, true);
            int steps = place + last;
            due("a way of " + steps, p.way(0, 1, 0), steps <= 200 ? steps : -1);
            due("its first", p.wayAt(0), chain[place]);
            due("its turn", p.wayAt(place), chain[0]);
            due("its 200th", p.wayAt(200), steps < 200 ? -1 : chain[last - (steps - 200)]);
            due("no 201st", p.wayAt(201), -1);
            p.wish(0, 1, 0, 200, 0);
            due("arrived of " + steps, p.run(200), steps <= 200 ? 1 : 0);
            due("lost of " + steps, p.count(7), steps <= 200 ? 0 : 1);
            Check.bytes(p, 0, 1, 0);
            due("read a way of " + steps, p.read(), steps <= 200 ? 1 : -1);
            due("reads a way of " + steps, p.reads(0, 0), steps <= 200 ? 1 : -1);
            if (steps == 200) {
                int[] tape = new int[200];
                for (int k = 0; k < 200; k++) {
                    tape[k] = chain[Math.abs(k + 1 - place)];
                }
                Check.bytes(p, tape);
                due("fits 200", p.fits(0, 1), 1);
                tape[0] = tape[1];
                Check.bytes(p, tape);
                due("fits all but the first", p.fits(0, 1), 0);
                tape[0] = chain[place - 1];
                tape[199] = 0;
                Check.bytes(p, tape);
                due("fits all but the last", p.fits(0, 1), 0);
            }
        }
    }

    /** Who has ARRIVED or is LOST is on no CELL any more. */
    private static void gone() {
        GrassPark p = field(0);
        p.wish(0, 1, 0, 200, 0);
        p.run(3);
        due("no tree under it", p.lay(13, 3), false);
        due("it arrives", p.run(1), 1);
        due("a tree where it was", p.lay(13, 3), true);
        GrassPark q = field(0);
        q.wish(0, 1, 0, 200, 0);
        q.run(2);
        Check.habit(q, 0, "never wet < 999;");
        q.run(197);
        due("it stays on 12", q.walker(0, 0), 12);
        due("no fence where it is", q.lay(12, 6), false);
        q.run(1);
        due("it is lost", q.count(7), 1);
        due("it is gone", q.count(4), 0);
        due("a fence where it was", q.lay(12, 6), true);
        // LOST ones are no crowd
        for (int n : new int[] {198, 200}) {
            GrassPark r = field(0);
            Check.habit(r, 1, "never wet < 999;");
            Check.habit(r, 0, "weigh crowd 9;");
            r.wish(2, 1, 1, 200, 0);
            r.run(n);
            r.drop(0);
            r.wish(0, 1, 0, 200, n);
            r.run(1);
            due("crowd behind " + n, r.walker(n == 198 ? 1 : 0, 0), n == 198 ? 6 : 11);
        }
    }

    // ---- weights

    /** 10 times the greater, 4 times the lesser. */
    private static void distances() {
        for (int h = 8; h <= 12; h++) {
            // 5 is 44 from 14, 6 is 34: all others are shut
            GrassPark p = ground(5, 5, 11, 3, 16, 3, 15, 3, 6, 16 * h);
            doors(p, 10, 14);
            due("10 more: " + h, firstStep(p, "weigh climb 1;"), h >= 10 ? 5 : 6);
        }
        for (int h = 2; h <= 6; h++) {
            // 6 is 34, 11 is 30
            GrassPark p = field(16 * h);
            due("4 more: " + h, firstStep(p, "weigh climb 1;"), h >= 4 ? 6 : 11);
        }
        // up and down as across: 10 is y now
        for (int h = 2; h <= 6; h++) {
            // from 2 down to 22: 7 is 30, 8 and 6 are 34
            GrassPark p = ground(5, 5, 7, 16 * h);
            doors(p, 2, 22);
            due("4 more, down: " + h, firstStep(p, "weigh climb 1;"), h >= 4 ? 8 : 7);
        }
    }

    private static void green() {
        int[][] told = {{49, 0, 4}, {40, 0, 4}, {39, 0, 3}, {20, 0, 2}, {19, 0, 1}, {10, 0, 1}, {9, 0, 0}, {1, 0, 0},
            {40, 1, 3}, {40, 10, 3}, {40, 11, 2}, {40, 30, 1}, {40, 31, 0}, {40, 39, 0}, {40, 40, 0}, {40, 41, 0},
            {40, 60, 0}, {40, 999, 0}, {999, 960, 3}, {999, 959, 4}, {999, 989, 1}, {999, 990, 0}, {999, 999, 0}};
        for (int[] t : told) {
            due("green: line " + t[0] + ", wear " + t[1],
                added("weigh green 1;", 0, worn(t[1], "line " + t[0] + ";")), t[2]);
            due("green on a bed: line " + t[0] + ", wear " + t[1],
                added("weigh green 1;", 2, worn(t[1], "line " + t[0] + ";")), t[2]);
        }
        for (int kind : new int[] {1, 4, 5}) {
            due("green: kind " + kind, added("weigh green 99;", kind, AS_IT_IS), 0);
        }
        due("green 0", added("weigh green 0;", 0, AS_IT_IS), 0);
        due("green by its cond", added("weigh green 1 if bed;", 0, AS_IT_IS), 0);
        due("green twice", added("weigh green 1; weigh green 2;", 0, p -> Check.law(p, "line 10;")), 3);
        due("green, its first not", added("weigh green 1 if bed; weigh green 2;", 0, p -> Check.law(p, "line 10;")), 2);
    }

    private static void wet() {
        int[][] told = {{1, 0}, {9, 0}, {10, 1}, {11, 1}, {19, 1}, {20, 2}, {29, 2}, {30, 3}, {40, 4}, {49, 4}};
        for (int[] t : told) {
            for (int kind = 0; kind < 3; kind++) {
                due("wet " + t[0], added("weigh wet 1;", kind, p -> p.rain(t[0])), t[1]);
            }
            due("wet: none on steps", added("weigh wet 1;", 5, p -> p.rain(t[0])), 0);
        }
        due("wet 200", added("weigh wet 1 if wet > 199;", 0, p -> p.rain(200)) >= 4, true);
        due("wet, drier by a week", added("weigh wet 1;", 0, p -> {
            p.rain(49);
            p.week();
        }), 3);
    }

    private static void climb() {
        int[][] told = {{0, 4}, {8, 12}, {8, 4}, {15, 11}, {4, 0}};
        for (int[] t : told) {
            for (int n = -1; n <= 1; n++) {
                int up = t[1] < t[0] ? t[1] - n : t[1] + n;
                if (up >= 0) {
                    GrassPark p = ground(5, 5, 10, 16 * t[0], 6, 16 * t[0], 11, 16 * up);
                    doors(p, 10, 14);
                    due("climb from " + t[0] + " to " + up, firstStep(p, "weigh climb 1;"),
                        Math.abs(up - t[0]) >= 4 ? 6 : 11);
                }
            }
        }
        GrassPark p = ground(5, 5, 10, 16 * 15, 6, 16 * 15);
        doors(p, 10, 14);
        due("climb by 15, 1 times", firstStep(p, "weigh climb 1 if height = 0;"), 6);
        due("climb by 15, 0 times", firstStep(p, "weigh climb 0;"), 11);
    }

    private static void crowd() {
        // so many stand on 11, whose CELL is their DOOR
        for (int n = 0; n <= 5; n++) {
            int many = n;
            GrassPark p = field(0);
            Check.habit(p, 5, "never wet < 999;");
            Check.habit(p, 0, "weigh crowd 1;");
            for (int k = 0; k < many; k++) {
                p.wish(2, 1, 5, 200, 0);
            }
            p.wish(0, 1, 0, 200, 0);
            p.run(1);
            due("crowd of " + n, p.walker(n, 0), n >= 4 ? 6 : 11);
            due("a way is alone", p.way(0, 1, 0), 4);
            due("a way is alone", p.wayAt(1), 11);
            Check.bytes(p, 11, 12, 13, 14);
            due("fits: alone", p.fits(0, 1), 31);
            p.snow();
            Check.bytes(p, 0, 1, 0);
            due("read: alone", p.read(), 1);
        }
        // those who came on it in this TICK count, those who went on do not
        GrassPark q = field(0);
        Check.habit(q, 0, "weigh crowd 4;");
        q.wish(0, 1, 0, 200, 0);
        q.wish(0, 1, 0, 200, 0);
        q.wish(0, 1, 0, 200, 1);
        q.run(1);
        due("the first is on 11", q.walker(0, 0), 11);
        due("the second sees it there", q.walker(1, 0), 6);
        q.run(1);
        due("the third sees it gone on", q.walker(2, 0), 11);
        // who has ARRIVED is there no more
        GrassPark r = field(0);
        Check.habit(r, 0, "weigh crowd 9;");
        r.wish(0, 2, 1, 200, 0);
        r.wish(0, 1, 0, 200, 0);
        due("one arrives on 11", r.run(1), 1);
        due("nobody is on 11 then", r.walker(0, 0), 11);
    }

    private static void turn() {
        GrassPark p = field(0, 16, 3);
        due("turn: 0 for the first step", firstStep(p, "weigh turn 99 if grass;"), 11);
        GrassPark f = field(0, 16, 3);
        Check.habit(f, 0, "weigh turn 99 if grass;");
        f.wish(0, 1, 0, 200, 0);
        f.run(1);
        due("turn: 0 for a walker's first step", f.walker(0, 0), 11);
        // by 6 first; then 2 is the same way (28), 12 another (20), 7 another (24)
        for (int n = 6; n <= 10; n++) {
            GrassPark q = ground(5, 5, 11, 8);
            doors(q, 10, 14);
            firstStep(q, "never sign; weigh turn " + n + ";");
            due("turn: first by 6", q.wayAt(1), 6);
            due("turn: then " + n, q.wayAt(2), n >= 8 ? 2 : 12);
            q.wish(0, 1, 0, 200, 0);
            q.run(1);
            q.image(1);
            q.run(1);
            due("turn: a walker, then " + n, q.walker(0, 0), n >= 8 ? 2 : 12);
            q.run(3);
            q.restore(1);
            q.run(1);
            due("turn: restored, then " + n, q.walker(0, 0), n >= 8 ? 2 : 12);
            q.restore(1);
            Check.bytes(q, 22);
            due("turn: in a case, then " + n, q.fences(12, 1), n >= 8 ? 0 : -1);
            Check.bytes(q, 22);
            due("turn: in a case, then " + n, q.fences(2, 1), n >= 8 ? -1 : 0);
        }
    }

    private static void come() {
        // 11 to 13 round the wall: up to 6, then back to 11 (20) or on to 2 (24)
        for (int n = 2; n <= 6; n++) {
            GrassPark p = ground(5, 5, 7, 3, 12, 6, 17, 3);
            doors(p, 11, 13);
            due("come: first up", firstStep(p, "weigh come " + n + ";"), 6);
            due("come: then " + n, p.wayAt(2), n >= 4 ? 2 : 11);
            p.wish(0, 1, 0, 200, 0);
            p.run(1);
            p.image(1);
            p.run(1);
            due("come: a walker, then " + n, p.walker(0, 0), n >= 4 ? 2 : 11);
            p.restore(1);
            Check.bytes(p, 22);
            due("come: in a case, then " + n, p.fences(2, 1), n >= 4 ? -1 : 0);
            p.run(1);
            due("come: restored, then " + n, p.walker(0, 0), n >= 4 ? 2 : 11);
        }
    }

    /** So many CELLS of the row from 11 on are worn by somebody who went there. */
    private static Consumer<GrassPark> wornRow(int steps, Consumer<GrassPark> then) {
        return p -> {
            Check.law(p, "wear 40;");
            int k = p.wish(0, 1, 5, 200, 0);
            p.run(steps);
            p.drop(k);
            due("the net of the row", p.net(), steps);
            then.accept(p);
        };
    }

    private static void line() {
        for (int steps = 0; steps <= 4; steps++) {
            for (int sight = 0; sight <= 9; sight++) {
                int seen = Math.min(steps, sight);
                due("line: " + steps + " worn, sight " + sight,
                    added("weigh line 1; sight " + sight + ";", 0, wornRow(steps, AS_IT_IS)), -seen);
            }
            due("line: 3 without", added("weigh line 1;", 0, wornRow(steps, AS_IT_IS)), -Math.min(steps, 3));
            due("line 0", added("weigh line 0;", 0, wornRow(steps, AS_IT_IS)), 0);
            due("line 2", added("weigh line 2; sight 5;", 0, wornRow(steps, AS_IT_IS)), -2 * steps);
        }
        due("line: nothing worn, by its cond", added("weigh line 50 if grass; sight 9;", 0, AS_IT_IS), 0);
        due("line: one worn, by its cond", added("weigh line 5 if grass; sight 9;", 0, wornRow(1, AS_IT_IS)), -5);
        // what is not WORN counts not, and those behind it do
        due("line: over grass", added("weigh line 1; sight 9;", 0, wornRow(4, p -> {
            p.lay(12, 4);
        })), -3);
        due("line: to a tree", added("weigh line 1; sight 9;", 0, wornRow(4, p -> {
            due("a tree", p.run(1) >= 0 && p.lay(13, 3), true);
        })), -2);
        due("line: to a fence", added("weigh line 1; sight 9;", 0, wornRow(4, p -> {
            due("a fence", p.run(1) >= 0 && p.lay(12, 6), true);
        })), -1);
        due("line: the cond is asked of the first alone", added("weigh line 1 if not bed; sight 9;", 0,
            wornRow(4, p -> p.lay(12, 2))), -4);
        due("line: worn at line", added("weigh line 1; sight 9;", 0, wornRow(4, p -> Check.law(p, "line 40;"))), -4);
        due("line: worn below line", added("weigh line 1; sight 9;", 0, wornRow(4, p -> Check.law(p, "line 41;"))), 0);
        // the row below begins with worn CELLS: THE PARK ends at its side
        GrassPark q = field(16 * 6);
        doors(q, 15, 17);
        Check.law(q, "wear 40;");
        q.wish(3, 4, 5, 200, 0);
        q.run(4);
        due("worn behind the end", q.cell(16, 7) + q.cell(17, 7), 2);
        due("line: to the end of the park", firstStep(q, "weigh climb 1; weigh line 1 if height = 6; sight 9;"), 6);
    }

    /** LINES are added as often as their CONDS hold, and each look begins at nothing. */
    private static void sums() {
        due("all of them", added("weigh wet 1; weigh green 1; weigh wet 1 if grass; weigh green 1 if bed;", 0, p -> {
            p.rain(10);
            Check.law(p, "line 20;");
        }), 4);
        due("line takes away", added("weigh wet 2; weigh line 1;", 0, wornRow(1, p -> p.rain(10))), 1);
        GrassPark p = field(16 * 3);
        Check.habit(p, 0, "weigh climb 1;");
        Check.habit(p, 1, "never sign;");
        Check.law(p, "wear 0;");
        p.wish(0, 1, 0, 1, 0);
        p.run(30);
        due("always by 11", p.cell(11, 5), 30);
        due("never by 6", p.cell(6, 5), 0);
    }

    // ---- steps and WEEKS

    private static void stepsWear() {
        int[][] kinds = {{0, 7}, {1, 0}, {2, 7}, {4, 0}, {5, 0}};
        for (int[] k : kinds) {
            GrassPark p = field(k[0]);
            wear11(p, 7);
            due("wear of kind " + k[0], p.cell(11, 3), k[1]);
            due("trod of kind " + k[0], p.cell(11, 5), 1);
            due("snow of kind " + k[0], p.cell(11, 6), 1);
        }
        String law = "wear 998 if wear = 0; wear 1 if wear = 998; wear 5;";
        GrassPark q = field(0);
        Check.law(q, law);
        q.wish(0, 2, 0, 1, 0);
        int[] wear = {998, 999, 999};
        for (int w : wear) {
            q.run(1);
            due("999 at most", q.cell(11, 3), w);
        }
        GrassPark r = field(8);
        Check.law(r, "wear 1 if bed; wear 2 if sign; wear 3;");
        r.wish(0, 2, 0, 1, 0);
        r.run(1);
        due("the first whose cond holds", r.cell(11, 3), 2);
        Check.law(r, "wear 1 if bed; wear 0 if sign; wear 3;");
        r.run(1);
        due("a number of 0", r.cell(11, 3), 2);
        Check.law(r, "wear 1 if bed; wear 2 if not sign;");
        r.run(1);
        due("5 without one that holds", r.cell(11, 3), 7);
        due("steps on the goal too", r.cell(11, 5), 3);
        due("none on the door one begins on", r.cell(10, 5) + r.cell(10, 3), 0);
        GrassPark t = field(0);
        Check.law(t, "wear 30 if trod = 0; wear 7 if wear = 30; wear 100;");
        t.wish(0, 2, 0, 1, 0);
        for (int w : new int[] {30, 37, 137}) {
            t.run(1);
            due("cond of the cell ahead of the step", t.cell(11, 3), w);
        }
    }

    private static void weeks() {
        GrassPark p = field(0);
        Check.law(p, "wear 30; grow 9 if trod = 1; grow 4 if wet > 9; grow 29 if wear = 21; dry 6;");
        p.rain(15);
        p.wish(0, 2, 0, 200, 0);
        p.run(1);
        p.week();
        due("a week: trod and wet as they were", p.cell(11, 3), 21);
        due("a week: dry", p.cell(11, 4), 9);
        due("a week: trod is 0 then", p.cell(11, 5), 0);
        due("a week: snow stays", p.cell(11, 6), 1);
        p.week();
        due("not below 0", p.cell(11, 3), 0);
        due("dry", p.cell(11, 4), 3);
        p.week();
        due("not below 0", p.cell(11, 4), 0);
        GrassPark q = field(0);
        wear11(q, 40);
        Check.law(q, "grow 0; dry 0;");
        q.rain(3);
        due("a week of nothing", q.week(), 1);
        due("a week of nothing", q.cell(11, 3) + q.cell(11, 4), 43);
        Check.law(q, "grow 1;");
        due("a week: the net then", q.week(), 0);
        Check.law(q, "grow 40; dry 999;");
        q.week();
        due("a week: 40 less", q.cell(11, 3) + q.cell(11, 4), 0);
        GrassPark r = ground(4, 4);
        doors(r, 5, 0, 15);
        Check.law(r, "wear 50;");
        r.wish(0, 1, 0, 200, 0);
        r.wish(0, 2, 0, 200, 0);
        r.run(2);
        due("a week of the first and the last cell", r.week(), 3);
        due("grown", r.cell(0, 3) + r.cell(15, 3), 80);
    }
}
