import java.lang.reflect.Method;
import java.nio.file.Files;
import java.nio.file.Path;
import java.util.regex.Matcher;
import java.util.regex.Pattern;

/** Makes the calls of README.md's example and compares each answer with the one that stands behind it. */
public final class ReadmeTest {
    private static final Pattern CALL = Pattern.compile("p\\.(\\w+)\\(([^)]*)\\);(?: *// (-?\\w+).*)?");

    public static void main(String[] args) throws Exception {
        GrassPark p = null;
        int calls = 0;
        for (String line : Files.readAllLines(Path.of("README.md"))) {
            if (line.equals("GrassPark p = new GrassPark();")) {
                p = new GrassPark();
            }
            Matcher m = CALL.matcher(line);
            if (p != null && line.startsWith("text(p, ")) {
                Check.tape(p, literals(line));
            } else if (p != null && m.matches()) {
                calls++;
                String got = answer(p, m.group(1), m.group(2));
                String want = m.group(3) == null ? "null" : m.group(3);
                Check.due(line + " [" + got + "]", got.equals(want), true);
            } else if (p != null && line.startsWith("p.")) {
                Check.due("a call that can be made: " + line, false, true);
            }
        }
        Check.due("README.md has an example", calls > 20, true);
        System.exit(Check.end("readme"));
    }

    /** What stands between quotes, with \0 to \377 as in Java. */
    private static String literals(String line) {
        StringBuilder text = new StringBuilder();
        Matcher quoted = Pattern.compile("\"([^\"]*)\"").matcher(line);
        while (quoted.find()) {
            text.append(quoted.group(1).translateEscapes());
        }
        return text.toString();
    }

    private static String answer(GrassPark p, String name, String numbers) throws Exception {
        String[] told = numbers.isEmpty() ? new String[0] : numbers.split(", ");
        Object[] given = new Object[told.length];
        for (int i = 0; i < told.length; i++) {
            given[i] = Integer.decode(told[i]);
        }
        for (Method method : GrassPark.class.getDeclaredMethods()) {
            if (method.getName().equals(name)) {
                return String.valueOf(method.invoke(p, given));
            }
        }
        return "no such call";
    }
}
