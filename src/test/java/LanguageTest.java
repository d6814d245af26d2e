import java.nio.file.Files;
import java.nio.file.Path;
import java.util.List;
import java.util.regex.Matcher;
import java.util.regex.Pattern;

/** Some of LANGUAGE.md's rules, as far as the class's own text shows them. */
public final class LanguageTest {
    public static void main(String[] args) throws Exception {
        String all = Files.readString(Path.of("src/main/java/GrassPark.java"));
        String code = all.replaceAll("(?s)/\\*.*?\\*/", " ").replaceAll("//[^\n]*", " ").replaceAll("\"[^\"\n]*\"", "\"\"");
        none(code, "->|::", "lambdas and method references");
        none(code, "\\b(catch|try|finally|synchronized|assert|instanceof|volatile|transient|native|goto)\\b", "words not to be used");
        none(code, "\\bvar\\b|\\byield\\b|\\byield\\b|\\brecord\\b|\\bsealed\\b", "newer words");
        none(code, "\\b(System\\.(out|err|in|nanoTime|currentTimeMillis|exit|getProperty)|Random|Thread|Object)\\b", "clock, chance, output");
        none(code, "Exact\\(", "functions that throw");
        none(code, "^package ", "a package line");
        none(code, "@", "annotations");
        Matcher m = Pattern.compile("(?m)^import ([^;]+);").matcher(code);
        while (m.find()) {
            Check.due("import " + m.group(1), List.of("java.util.Arrays", "java.util.NoSuchElementException").contains(m.group(1)), true);
        }
        List<String> may = List.of("Arrays.fill", "System.arraycopy", "Math.min", "Math.max", "Math.abs", "Long.bitCount");
        m = Pattern.compile("\\b(Arrays|System|Math|Long|Integer|String|Character)\\.\\w+").matcher(code);
        while (m.find()) {
            Check.due("library " + m.group(), may.contains(m.group()), true);
        }
        // objects and arrays are made in fields and constructors alone, and thrown
        m = Pattern.compile("(?m)^.*\\bnew\\b.*$").matcher(code);
        while (m.find()) {
            String line = m.group().trim();
            boolean good = line.matches("(private )?final .* = new .*;|Text (law|spare) = new Text\\(\\);|throw new .*;"
                + "|(images|habits|wish|walker)\\[[ik]\\] = new \\w+\\(\\);");
            Check.due("made: " + line, good, true);
        }
        m = Pattern.compile("(?m)^ *(private |public )?(static )?[\\w\\[\\]]+ \\w+\\(([^)]*)\\)[^;{]*\\{").matcher(code);
        while (m.find()) {
            Check.due("at most seven parameters: " + m.group().trim(), m.group(3).split(",").length <= 7, true);
        }
        shortMethods(all.split("\n"));
        Check.due("members that are not private", code.split("(?m)^    (?!private |public |}| )\\S").length, 1);
        for (char c : all.toCharArray()) {
            if (c > 126) {
                Check.due("a sign beyond 127", c, 0);
            }
        }
        System.exit(Check.end("language"));
    }

    private static void none(String code, String pattern, String what) {
        Matcher m = Pattern.compile(pattern, Pattern.MULTILINE).matcher(code);
        Check.due(what, m.find() ? 1 : 0, 0);
    }

    /** A method ends with a brace under its first sign. */
    private static void shortMethods(String[] lines) {
        for (int i = 0; i < lines.length; i++) {
            String line = lines[i];
            if (line.matches(" {4}( {4})?(private |public )?(static )?[\\w\\[\\]]+ \\w+\\(.*\\{") ) {
                String end = line.replaceAll("\\S.*", "") + "}";
                int n = i;
                while (n < lines.length && !lines[n].equals(end)) {
                    n++;
                }
                Check.due("a short method: " + line.trim() + " " + (n - i), n - i <= 60, true);
            }
        }
    }
}
