import java.nio.charset.StandardCharsets;
import java.util.NoSuchElementException;

/** What the tests share: answers that are due, and texts for the tape. */
final class Check {
    static int wrong;
    static int asked;

    private Check() {
    }

    static void due(String what, long got, long want) {
        asked++;
        if (got != want) {
            wrong++;
            System.out.println(what + " answered " + got + ", due is " + want);
        }
    }

    static void due(String what, boolean got, boolean want) {
        due(what, got ? 1 : 0, want ? 1 : 0);
    }

    /** cell() must throw a NoSuchElementException. */
    static void noCell(GrassPark p, int c, int what) {
        asked++;
        try {
            p.cell(c, what);
        } catch (NoSuchElementException e) {
            return;
        }
        wrong++;
        System.out.println("cell(" + c + ", " + what + ") did not throw");
    }

    /** Makes the tape just these bytes. */
    static void tape(GrassPark p, String text) {
        byte[] b = text.getBytes(StandardCharsets.ISO_8859_1);
        p.end(0);
        for (int i = 0; i < b.length; i += 20) {
            int[] n = new int[5];
            for (int j = 0; j < 20; j++) {
                n[j / 4] = n[j / 4] << 8 | (i + j < b.length ? b[i + j] & 255 : 0);
            }
            p.feed(n[0], n[1], n[2], n[3], n[4]);
        }
        p.end(b.length);
    }

    static void bytes(GrassPark p, int... b) {
        StringBuilder s = new StringBuilder();
        for (int x : b) {
            s.append((char) x);
        }
        tape(p, s.toString());
    }

    static int law(GrassPark p, String text) {
        tape(p, text);
        return p.law();
    }

    static int habit(GrassPark p, int k, String text) {
        tape(p, text);
        return p.habit(k);
    }

    /** A PARK told by rows of letters: . grass, g gravel, b bed, T tree, p paved, s steps, F fence. */
    static GrassPark park(String... rows) {
        GrassPark p = new GrassPark();
        StringBuilder s = new StringBuilder();
        for (String row : rows) {
            for (char c : row.toCharArray()) {
                s.append((char) ".gbTpsF".indexOf(c));
            }
        }
        tape(p, s.toString());
        due("park", p.park(rows[0].length(), rows.length), true);
        return p;
    }

    /** A chain of CELLS of 16 by 16: each is beside the one ahead and the one behind it alone. */
    static int[] chain() {
        int[] chain = new int[120];
        int n = 1;
        for (int y = 0; y < 16; y += 2) {
            boolean right = y % 4 == 0;
            for (int k = 1; k <= 14; k++) {
                chain[n++] = 16 * y + (right ? k : 15 - k);
            }
            if (y < 14) {
                chain[n++] = 16 * (y + 1) + (right ? 15 : 0);
            }
        }
        return chain;
    }

    static int end(String test) {
        System.out.println(test + ": " + asked + " answers asked for, " + wrong + " wrong");
        return wrong == 0 ? 0 : 1;
    }
}
