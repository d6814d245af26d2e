/** What a text may say and what each FAULT is, byte by byte; and what each word of a HABIT does. */
public final class TextsTest {
    public static void main(String[] args) {
        laws();
        habits();
        faultsOfTokens();
        faultsOfNumbers();
        faultsOfLines();
        faultsOfOnes();
        longTexts();
        conds();
        measures();
        System.exit(Check.end("texts"));
    }

    private static void law(String text, int answer, int fault) {
        GrassPark p = new GrassPark();
        Check.due("law " + text, Check.law(p, text), answer);
        Check.due("fault of law " + text, p.fault(), fault);
        Check.due("tape behind law " + text, p.count(9), 0);
    }

    private static void habit(String text, int answer, int fault) {
        GrassPark p = new GrassPark();
        Check.due("habit " + text, Check.habit(p, 5, text), answer);
        Check.due("fault of habit " + text, p.fault(), fault);
        Check.due("tape behind habit " + text, p.count(9), 0);
    }

    private static void laws() {
        law("", 0, 0);
        law(" \n ", 0, 0);
        law("wear 0;", 1, 0);
        law("wear 999;grow 999;line 999;mud 999;dry 999;", 5, 0);
        law("wear 005;line 001;", 2, 0);
        law("wear\n5\nif\nnot\n(grass\nor\nbed)\n;\n", 1, 0);
        law("wear 5 if(grass);grow 3 if wear<10and wet>2or height=5;", -33, 1);
        law("wear 5 if(grass);grow 3 if wear<10 and wet>2 or height=5;", 2, 0);
        law("wear 5 if trod > 999;".repeat(16), 16, 0);
        law("mud 0;dry 0;wear 0;grow 0;line 1;", 5, 0);
    }

    private static void habits() {
        habit("", 0, 0);
        habit("weigh green 0; weigh wet 99; weigh climb 1; weigh crowd 2; weigh turn 3; weigh come 4; weigh line 5;", 7, 0);
        habit("never gravel; never bed; sight 0;", 3, 0);
        habit("sight 9;never paved and steps;", 2, 0);
        habit("sight 009;", 1, 0);
        GrassPark p = new GrassPark();
        Check.due("habit -1", Check.habit(p, -1, "x"), -1000);
        Check.due("tape behind it", p.count(9), 0);
        Check.due("habit 6", Check.habit(p, 6, ""), -1000);
        Check.due("fault ahead of any", p.fault(), 0);
        Check.due("habit 0", Check.habit(p, 0, "x"), -1);
        Check.due("fault", p.fault(), 1);
        Check.due("habit 7", Check.habit(p, 7, ""), -1000);
        Check.due("fault of the one ahead", p.fault(), 1);
        Check.due("law", Check.law(p, ""), 0);
        Check.due("fault", p.fault(), 0);
    }

    private static void faultsOfTokens() {
        String[] bad = {"Wear 5;", "_", "\t", "\0", "\377", "wear5;", "wearing 5;", "5;", "weather", "if", ";", "weigh green 1;"};
        for (String text : bad) {
            law(text, -1, 1);
        }
        law("wear", -5, 1);
        law("wear ", -6, 1);
        law("wear 5", -7, 1);
        law("wear 5 ", -8, 1);
        law("wear 5 if", -10, 1);
        law("wear 5 if grass", -16, 1);
        law("wear 5 if grass or", -19, 1);
        law("wear 5 if grass bed;", -17, 1);
        law("wear 5 if (grass", -17, 1);
        law("wear 5 if (grass;", -17, 1);
        law("wear 5 if grass);", -16, 1);
        law("wear 5 if ();", -12, 1);
        law("wear 5 if wear 5;", -16, 1);
        law("wear 5 if wear <;", -17, 1);
        law("wear 5 if wear < wet;", -18, 1);
        law("wear 5 if wear << 5;", -17, 1);
        law("wear 5 if and;", -11, 1);
        law("wear 5 if not;", -14, 1);
        law("wear 5 if tree;", -11, 1);
        law("wear 5 if fence;", -11, 1);
        law("wear 5 grass;", -8, 1);
        law("wear 5;;", -8, 1);
        law("wear 1000;", -6, 1);
        law("wear 5x;", -6, 1);
        law("wear 5 if wear < 1000;", -18, 1);
        law("wear -5;", -6, 1);
        law("line 5 if worn;", -8, 1);
        law("mud 5 if worn;", -7, 1);
        law("wear 5 if grass(;", -16, 1);
        law("sight 5;", -1, 1);
        law("never worn;", -1, 1);
        habit("weigh 5;", -7, 1);
        habit("weigh wear 5;", -7, 1);
        habit("weigh line;", -11, 1);
        habit("weigh line if 5;", -12, 1);
        habit("never;", -6, 1);
        habit("never 5;", -7, 1);
        habit("sight;", -6, 1);
        habit("sight 3 if worn;", -9, 1);
        habit("never if worn;", -7, 1);
        habit("wear 5;", -1, 1);
        habit("weigh green 3 if worn or not (sign and;", -39, 1);
    }

    private static void faultsOfNumbers() {
        law("line 0;", -6, 2);
        law("line 000;", -6, 2);
        law("line 0", -6, 2);
        habit("weigh green 100;", -13, 2);
        habit("weigh line 999", -12, 2);
        habit("sight 10;", -7, 2);
        habit("sight 010;", -7, 2);
        habit("weigh green 1000;", -13, 1);
        law("wear 1 if height < 999 and trod = 000;", 1, 0);
    }

    private static void faultsOfLines() {
        law("line 5; line 6;", -9, 3);
        law("line 5; line", -9, 3);
        law("mud 5; dry 5; mud 6;", -15, 3);
        law("dry 5; mud 5; dry 6;", -15, 3);
        habit("sight 5; never worn; sight 5;", -22, 3);
        law("grow 1;".repeat(16), 16, 0);
        law("grow 1;".repeat(17), -1 - 7 * 16, 3);
        law("grow 1;".repeat(16) + "grow", -1 - 7 * 16, 3);
        law("grow 1;".repeat(16) + "graw", -1 - 7 * 16, 1);
        law("grow 1;".repeat(16) + ";", -1 - 7 * 16, 1);
        law("line 1;" + "grow 1;".repeat(15) + "line 1;", -1 - 7 * 16, 3);
        habit("never worn;".repeat(17), -1 - 11 * 16, 3);
    }

    private static void faultsOfOnes() {
        law("wear 1 if " + "not ".repeat(9) + "worn;", 1, 0);
        law("wear 1 if " + "not ".repeat(10) + "worn;", -51, 4);
        law("wear 1 if " + "not ".repeat(10) + "line;", -51, 1);
        law("wear 1 if " + "(".repeat(9) + "worn" + ")".repeat(9) + ";", 1, 0);
        law("wear 1 if " + "(".repeat(10) + "worn" + ")".repeat(10) + ";", -21, 4);
        law("wear 1 if " + "not(".repeat(5) + "worn" + ")".repeat(5) + ";", -31, 4);
        law("wear 1 if " + "(".repeat(11) + ";", -21, 4);
        law("wear 1 if " + "(".repeat(9) + "worn" + ")".repeat(9) + " and " + "not ".repeat(9) + "worn;", 1, 0);
        // 40 ONES of eight bytes each, over two LINES: 'not' is one of them, and so is what stands in ( )
        String forty = "wear 1 if " + "bed or ".repeat(37) + "not (bed);";
        law(forty, 1, 0);
        law(forty + "wear 1 if bed;", -1 - forty.length() - 10, 4);
        law(forty + "wear 1 if line;", -1 - forty.length() - 10, 1);
        law(forty + "wear 1 if not line;", -1 - forty.length() - 10, 4);
        String split = "wear 1 if " + "bed or ".repeat(19) + "bed;grow 1 if " + "bed or ".repeat(19) + "bed;";
        law(split, 2, 0);
        law(split + "dry 5;grow 1 if (bed);", -1 - split.length() - 16, 4);
    }

    private static void longTexts() {
        String many = "wear 1;".repeat(16);
        law(many + " ".repeat(400 - many.length()), 16, 0);
        law(many + " ".repeat(401 - many.length()), -401, 1);
        law(many + " ".repeat(397 - many.length()) + "dry", -398, 3);
        law(" ".repeat(394) + "wear 5;", -401, 1);
        law(" ".repeat(393) + "wear 5;", 1, 0);
        law(" ".repeat(395) + "wear 5;", -401, 1);
        law(" ".repeat(394) + "wear 1000;", -400, 1);
        law(" ".repeat(394) + "line 000;", -400, 2);
        law(" ".repeat(399) + "wear 5;", -401, 1);
        law(" ".repeat(399) + "weather 5;", -400, 1);
        law(" ".repeat(400) + "weather 5;", -401, 1);
        law(" ".repeat(399) + "weat 5;", -400, 1);
        law(" ".repeat(440), -401, 1);
        law(" ".repeat(400), 0, 0);
        law(" ".repeat(396) + "wear", -401, 1);
        law(" ".repeat(390) + "wear", -395, 1);
        habit(" ".repeat(388) + "sight 3;never", -401, 1);
        GrassPark p = new GrassPark();
        Check.law(p, "line 1;");
        p.door(0);
        p.door(3);
        p.wish(0, 1, 0, 1, 0);
        p.run(1);
        Check.due("the law", p.cell(1, 7), 1);
        Check.law(p, "line 50; line 60;");
        Check.due("the law stays", p.cell(1, 7), 1);
        Check.law(p, "wear 1;");
        Check.due("40 without one", p.cell(1, 7), 0);
    }

    /** Which kinds of CELL a COND holds of, by what a first step on each wears. */
    private static void conds() {
        // below 0 to 3: grass with a sign and height 5, bed, grass, bed with a sign
        String[][] asked = {
            {"grass", "1010"}, {"bed", "0101"}, {"gravel", "0000"}, {"sign", "1001"}, {"not sign", "0110"},
            {"grass and sign", "1000"}, {"grass or sign", "1011"}, {"not grass and sign", "0001"},
            {"not (grass and sign)", "0111"}, {"bed and sign or grass and not sign", "0011"},
            {"bed and (sign or grass) and not sign", "0000"}, {"height = 5", "1000"}, {"height < 5", "0111"},
            {"height > 4", "1000"}, {"height > 5", "0000"}, {"wet = 0", "1111"}, {"wear < 1", "1111"},
            {"wear > 0", "0000"}, {"trod = 0", "1111"}, {"trod > 0", "0000"}, {"worn", "0000"}, {"muddy", "0000"},
            {"paved or steps", "0000"}, {"not not bed", "0101"}, {"sign or bed and grass", "1001"},
            {"(sign or bed) and grass", "1000"}, {"not sign or sign", "1111"}, {"wet < 0 or height > 999", "0000"}};
        for (String[] a : asked) {
            StringBuilder held = new StringBuilder();
            int[] bytes = {8 + 5 * 16, 2, 0, 2 + 8};
            for (int b : bytes) {
                GrassPark p = new GrassPark();
                Check.bytes(p, 0, b, 0, 0, 0, 0, 0, 0, 0, 0, 0, 0, 0, 0, 0, 0);
                p.park(4, 4);
                p.door(0);
                p.door(1);
                Check.law(p, "wear 7 if " + a[0] + "; wear 3;");
                p.wish(0, 1, 0, 1, 0);
                p.run(1);
                held.append(p.cell(1, 3) == 7 ? 1 : p.cell(1, 3) == 3 ? 0 : 9);
            }
            Check.due("cond " + a[0] + ": " + held + ", due " + a[1], held.toString().equals(a[1]), true);
        }
        // the state ahead of the step is asked: the first is not trod, the second is
        GrassPark p = new GrassPark();
        p.door(0);
        p.door(1);
        Check.law(p, "wear 7 if trod < 1; wear 50 if wear < 8 and not worn; wear 1 if worn and trod = 2; wear 90 if muddy;");
        p.wish(0, 1, 0, 1, 0);
        int[] wear = {7, 57, 58, 63};
        for (int want : wear) {
            p.run(1);
            Check.due("wear step by step", p.cell(1, 3), want);
        }
        p.rain(50);
        p.run(1);
        Check.due("wear, muddy", p.cell(1, 3), 153);
    }

    /** A walker from the left to the right of a lawn, its first step told by a HABIT. */
    private static int firstStep(String habit, int sixth, int eleventh, int sixteenth) {
        GrassPark p = new GrassPark();
        int[] cells = new int[25];
        cells[6] = sixth;
        cells[11] = eleventh;
        cells[16] = sixteenth;
        Check.bytes(p, cells);
        p.park(5, 5);
        p.door(10);
        p.door(14);
        p.rain(55);
        for (int i = 0; i < cells.length; i++) {
            if (cells[i] % 8 == 4) {
                p.lay(i, 0);
                p.lay(i, 4);
            }
        }
        Check.due("habit " + habit, Check.habit(p, 0, habit) >= 0, true);
        p.way(0, 1, 0);
        return p.wayAt(1);
    }

    private static void measures() {
        Check.due("straight on", firstStep("", 0, 0, 0), 11);
        // from 11 it is 30 on, from 6 and 16 it is 34
        Check.due("green: 4 each on grass", firstStep("weigh green 1;", 0, 0, 0), 11);
        Check.due("green: gravel has none", firstStep("weigh green 2;", 1, 0, 0), 6);
        Check.due("green: just as far, from above", firstStep("weigh green 1;", 1, 0, 1), 6);
        Check.due("green: just as heavy", firstStep("weigh green 1;", 1, 0, 0), 6);
        Check.due("green: a bed has some", firstStep("weigh green 2;", 2, 0, 1), 16);
        Check.due("green: by its cond", firstStep("weigh green 9 if sign;", 0, 8, 0), 6);
        Check.due("wet: 5 each, none on paved", firstStep("weigh wet 1;", 4, 0, 0), 6);
        Check.due("wet: none on paved", firstStep("weigh wet 1;", 0, 0, 4), 16);
        Check.due("climb: five up", firstStep("weigh climb 1;", 0, 16 * 5, 0), 6);
        Check.due("climb: three up", firstStep("weigh climb 1;", 0, 16 * 3, 0), 11);
        Check.due("climb: by three", firstStep("weigh climb 3;", 16 * 2, 16 * 2, 0), 16);
        Check.due("never", firstStep("never sign;", 0, 8, 0), 6);
        Check.due("never two", firstStep("never sign and grass; never height > 3;", 16 * 4, 8, 0), 16);
        Check.due("never: tree is not stepped on", firstStep("", 3, 6, 0), 16);
        crowd();
        turnAndCome();
        line();
    }

    private static void crowd() {
        GrassPark p = Check.park(".....", ".....", ".....", ".....", ".....");
        p.door(10);
        p.door(14);
        p.door(11);
        p.door(1);
        Check.habit(p, 1, "never grass;");
        Check.habit(p, 0, "weigh crowd 2;");
        p.wish(2, 1, 1, 1, 0);
        p.run(1);
        p.wish(0, 1, 0, 200, 1);
        p.run(1);
        // two stand on 11, and 30 + 2 * 2 is just as much as 34: from above on, 6 is the first
        Check.due("crowd: two stand", p.walker(1, 0), 11);
        Check.due("crowd: round them", p.walker(2, 0), 6);
        GrassPark q = Check.park(".....", ".....", ".....", ".....", ".....");
        q.door(10);
        q.door(14);
        q.door(11);
        Check.habit(q, 1, "never grass;");
        Check.habit(q, 0, "weigh crowd 3;");
        q.wish(2, 1, 1, 200, 0);
        q.wish(0, 1, 0, 200, 0);
        q.run(1);
        Check.due("crowd: one is not enough", q.walker(1, 0), 11);
    }

    private static void turnAndCome() {
        GrassPark p = Check.park(".....", "...T.", ".....", ".....", ".....");
        p.door(5);
        p.door(9);
        Check.due("turn: way", p.way(0, 1, 0), 4);
        Check.due("turn: straight ahead of the tree", p.wayAt(2), 7);
        Check.due("turn: by it above", p.wayAt(3), 3);
        Check.habit(p, 0, "weigh turn 90;");
        // 7 is straight on, then all are turns: the least heavy is as without
        p.way(0, 1, 0);
        Check.due("turn: straight", p.wayAt(2), 7);
        Check.due("turn: aslant", p.wayAt(3), 3);
        // a dead end: to and fro, but for 'come'
        GrassPark q = Check.park(".....", "..T..", "..T..", "..T..", ".....");
        q.door(11);
        q.door(13);
        Check.due("come: without", q.way(0, 1, 0), -1);
        Check.due("come: up", q.wayAt(1), 6);
        Check.habit(q, 0, "weigh come 40;");
        Check.due("come: with", q.way(0, 1, 0), 4);
        Check.due("come: on by 2", q.wayAt(2), 2);
    }

    private static void line() {
        for (int sight = 0; sight <= 9; sight++) {
            GrassPark p = Check.park(".......", ".......", ".......", ".......", ".......");
            p.door(7);
            p.door(13);
            p.door(15);
            Check.law(p, "wear 50; grow 0;");
            Check.habit(p, 1, "never height = 0;");
            // 16 to 19 are worn: on from 15 they are straight ahead, aslant from 7 only 15 .. 23
            p.door(20);
            p.door(23);
            p.wish(2, 3, 0, 200, 0);
            p.run(10);
            Check.habit(p, 0, "sight " + sight + "; weigh line 5;");
            p.way(2, 3, 0);
            Check.due("line: on it", p.wayAt(1), 16);
            p.way(2, 1, 0);
            // 9 is 4 on and 1 up: 40; 16 is 40 and one aside: 44, less 5 each, the told SIGHT of 5 worn ones at most
            int worn = Math.min(sight, 5);
            Check.due("line: sight " + sight, p.wayAt(1), 44 - 5 * worn < 40 ? 16 : 9);
            p.lay(17, 3);
            p.way(2, 1, 0);
            Check.due("line: to the tree", p.wayAt(1), 44 - 5 * Math.min(worn, 1) < 40 ? 16 : 9);
        }
    }
}
