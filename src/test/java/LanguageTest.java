import java.io.IOException;
import java.nio.charset.StandardCharsets;
import java.nio.file.Files;
import java.nio.file.Path;
import java.util.Set;
import java.util.TreeSet;
import java.util.regex.Matcher;
import java.util.regex.Pattern;

/** What of LANGUAGE.md can be told from the source alone. It is run from the project's own folder. */
public final class LanguageTest {
    private static final Check check = new Check("LanguageTest");

    public static void main(String[] args) throws IOException {
        String source = Files.readString(Path.of("src/main/java/RegretPit.java"), StandardCharsets.UTF_8);
        check.holds("signs 1 to 127 alone", source.chars().allMatch(c -> c > 0 && c < 128));
        String code = source.replaceAll("(?s)/\\*.*?\\*/", " ").replaceAll("//[^\n]*", "");
        words(code);
        library(code);
        heads(code);
        nothingMadeByCalls(code);
        check.ends();
    }

    private static void lacks(String code, String regex) {
        check.holds("no " + regex, !Pattern.compile(regex).matcher(code).find());
    }

    private static void words(String code) {
        String[] words = {"throw", "throws", "try", "catch", "finally", "synchronized", "assert", "protected", "var",
            "volatile", "native", "transient", "package", "hashCode", "toString", "Object", "double", "float"};
        for (String word : words) {
            lacks(code, "\\b" + word + "\\b");
        }
        lacks(code, "->|::|@|\\bstatic\\s*\\{|\\w+Exact\\b|\\bwhile\\s*\\(\\s*true|for\\s*\\(\\s*;\\s*;");
    }

    private static void library(String code) {
        Set<String> used = new TreeSet<>();
        Matcher m = Pattern.compile("\\b(Math|Integer|Long|Arrays|System)\\.(\\w+)").matcher(code);
        while (m.find()) {
            used.add(m.group());
        }
        used.removeAll(Set.of("Math.min", "Math.max", "Integer.bitCount", "Arrays.fill", "System.arraycopy"));
        check.due("library beyond what is known to be in LANGUAGE.md: " + used, used.size(), 0);
        m = Pattern.compile("\\bimport\\s+([\\w.]+);").matcher(code);
        while (m.find()) {
            check.holds("import of " + m.group(1), Set.of("java.util.Arrays").contains(m.group(1)));
        }
    }

    /** Methods stay short and take seven parameters at most. */
    private static void heads(String code) {
        Matcher m = Pattern.compile("\n( +)(?:private |public |static |final )*[\\w\\[\\]]+ (\\w+)\\(([^)]*)\\) \\{\n").matcher(code);
        int found = 0;
        while (m.find()) {
            if (m.group(2).matches("if|for|while|switch")) {
                continue;
            }
            found++;
            int end = code.indexOf("\n" + m.group(1) + "}", m.end() - 1);
            check.holds(m.group(2) + " ends", end > 0);
            check.holds(m.group(2) + " is short", code.substring(m.end(), Math.max(m.end(), end)).lines().count() <= 60);
            check.holds(m.group(2) + " takes few", m.group(3).split(",").length <= 7);
        }
        check.holds("methods were found", found > 60);
    }

    /** The room holds some 600,000 objects of all calls together: none is made but by the constructor. */
    private static void nothingMadeByCalls(String code) {
        for (String line : code.split("\n")) {
            if (line.matches(".*\\bnew\\b.*")) {
                check.holds("made in a field: " + line.strip(), line.matches(" +(private )?final .*=.*"));
            }
        }
        lacks(code, "\"");
    }
}
