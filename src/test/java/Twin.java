import java.nio.charset.StandardCharsets;
import java.util.ArrayList;
import java.util.List;
import java.util.NoSuchElementException;

/** A GrassPark and a NaivePark to which the same is done; every answer that differs is printed. */
final class Twin {
    static final long THROWS = Long.MIN_VALUE;

    final GrassPark park = new GrassPark();
    final NaivePark naive = new NaivePark();
    final String name;
    final List<String> calls = new ArrayList<>();
    int wrong;

    Twin(String name) {
        this.name = name;
    }

    /** Calls a method of the face by its name on both; a boolean counts 1 or 0. */
    long call(String method, int... a) {
        StringBuilder told = new StringBuilder(method).append('(');
        for (int i = 0; i < a.length; i++) {
            told.append(i > 0 ? ", " : "").append(a[i]);
        }
        told.append(')');
        long want = ofNaive(method, a);
        long got = ofPark(method, a);
        calls.add(told + " = " + want);
        if (got != want && wrong++ == 0) {
            System.out.println(name + ": call " + calls.size() + ", " + told + " answered " + got + ", due is " + want);
            for (int i = Math.max(0, calls.size() - 60); i < calls.size(); i++) {
                System.out.println("    " + calls.get(i));
            }
        }
        return want;
    }

    /** Makes the tape just this text. */
    void tape(String text) {
        byte[] b = text.getBytes(StandardCharsets.ISO_8859_1);
        call("end", 0);
        for (int i = 0; i < b.length; i += 20) {
            int[] n = new int[5];
            for (int j = 0; j < 20; j++) {
                n[j / 4] = n[j / 4] << 8 | (i + j < b.length ? b[i + j] & 255 : 0);
            }
            call("feed", n);
        }
        call("end", b.length);
    }

    private long ofPark(String m, int[] a) {
        GrassPark p = park;
        switch (m) {
            case "feed": return p.feed(a[0], a[1], a[2], a[3], a[4]);
            case "end": return p.end(a[0]) ? 1 : 0;
            case "park": return p.park(a[0], a[1]) ? 1 : 0;
            case "door": return p.door(a[0]);
            case "law": return p.law();
            case "habit": return p.habit(a[0]);
            case "fault": return p.fault();
            case "wish": return p.wish(a[0], a[1], a[2], a[3], a[4]);
            case "drop": return p.drop(a[0]) ? 1 : 0;
            case "run": return p.run(a[0]);
            case "week": return p.week();
            case "rain": return p.rain(a[0]) ? 1 : 0;
            case "snow": p.snow(); return 0;
            case "lay": return p.lay(a[0], a[1]) ? 1 : 0;
            case "cell":
                try {
                    return p.cell(a[0], a[1]);
                } catch (NoSuchElementException e) {
                    return THROWS;
                }
            case "walker": return p.walker(a[0], a[1]);
            case "net": return p.net();
            case "pieces": return p.pieces();
            case "rests": return p.rests(a[0], a[1]);
            case "least": return p.least();
            case "longer": return p.longer(a[0], a[1]);
            case "turns": return p.turns(a[0], a[1], a[2], a[3]);
            case "paved": return p.paved(a[0], a[1], a[2], a[3]);
            case "wait": return p.wait(a[0], a[1]);
            case "fences": return p.fences(a[0], a[1]);
            case "fenceAt": return p.fenceAt(a[0]);
            case "lasts": return p.lasts(a[0], a[1], a[2], a[3]);
            case "way": return p.way(a[0], a[1], a[2]);
            case "wayAt": return p.wayAt(a[0]);
            case "read": return p.read();
            case "reads": return p.reads(a[0], a[1]);
            case "fits": return p.fits(a[0], a[1]);
            case "image": return p.image(a[0]) ? 1 : 0;
            case "restore": return p.restore(a[0]) ? 1 : 0;
            case "count": return p.count(a[0]);
            default: throw new IllegalArgumentException(m);
        }
    }

    private long ofNaive(String m, int[] a) {
        NaivePark p = naive;
        switch (m) {
            case "feed": return p.feed(a[0], a[1], a[2], a[3], a[4]);
            case "end": return p.end(a[0]) ? 1 : 0;
            case "park": return p.park(a[0], a[1]) ? 1 : 0;
            case "door": return p.door(a[0]);
            case "law": return p.law();
            case "habit": return p.habit(a[0]);
            case "fault": return p.fault();
            case "wish": return p.wish(a[0], a[1], a[2], a[3], a[4]);
            case "drop": return p.drop(a[0]) ? 1 : 0;
            case "run": return p.run(a[0]);
            case "week": return p.week();
            case "rain": return p.rain(a[0]) ? 1 : 0;
            case "snow": p.snow(); return 0;
            case "lay": return p.lay(a[0], a[1]) ? 1 : 0;
            case "cell":
                try {
                    return p.cell(a[0], a[1]);
                } catch (NoSuchElementException e) {
                    return THROWS;
                }
            case "walker": return p.walker(a[0], a[1]);
            case "net": return p.net();
            case "pieces": return p.pieces();
            case "rests": return p.rests(a[0], a[1]);
            case "least": return p.least();
            case "longer": return p.longer(a[0], a[1]);
            case "turns": return p.turns(a[0], a[1], a[2], a[3]);
            case "paved": return p.paved(a[0], a[1], a[2], a[3]);
            case "wait": return p.wait(a[0], a[1]);
            case "fences": return p.fences(a[0], a[1]);
            case "fenceAt": return p.fenceAt(a[0]);
            case "lasts": return p.lasts(a[0], a[1], a[2], a[3]);
            case "way": return p.way(a[0], a[1], a[2]);
            case "wayAt": return p.wayAt(a[0]);
            case "read": return p.read();
            case "reads": return p.reads(a[0], a[1]);
            case "fits": return p.fits(a[0], a[1]);
            case "image": return p.image(a[0]) ? 1 : 0;
            case "restore": return p.restore(a[0]) ? 1 : 0;
            case "count": return p.count(a[0]);
            default: throw new IllegalArgumentException(m);
        }
    }
}
