import java.io.IOException;
import java.nio.charset.StandardCharsets;
import java.nio.file.Files;
import java.nio.file.Path;
import java.util.regex.Matcher;
import java.util.regex.Pattern;

/** What can be seen of the language's rules in the text of the program; run from the project's folder. */
public final class LanguageTest {
    private static final String[] FORBIDDEN = {
        "\\bimport\\b", "\\bpackage\\b", "->", "::", "\\bthrow\\b", "\\btry\\b", "\\bcatch\\b", "\\bfinally\\b",
        "\\bsynchronized\\b", "\\bassert\\b", "\\binstanceof\\b", "\\bFloat\\.", "\\bDouble\\.", "\\bSystem\\.",
        "\\bdouble\\b", "\\w+Exact\\b", "\\bNaN\\b", "static \\{", "\\bprotected\\b", "\\bwhile \\(true\\)",
    };

    public static void main(String[] args) throws IOException {
        String source = Files.readString(Path.of("src/main/java/AncestorLooks.java"), StandardCharsets.UTF_8);
        Due.holds("signs are 1 to 127", source.chars().allMatch(sign -> sign > 0 && sign < 128));
        String code = source.replaceAll("(?s)/\\*.*?\\*/", "").replaceAll("//[^\n]*", "");
        for (String pattern : FORBIDDEN) {
            Matcher found = Pattern.compile(pattern).matcher(code);
            Due.holds("the program has no " + pattern, !found.find());
        }
        Matcher classes = Pattern.compile("\\bclass \\w+").matcher(code);
        Due.holds("some twelve classes at most", classes.results().count() <= 12);
        Matcher loose = Pattern.compile("(?m)^    (?!private |public |@|}|\\s).*").matcher(code);
        Due.holds("each member of the public class is private or of the face", !loose.find());
        Matcher fixed = Pattern.compile("\\bstatic (?!final|int|float|boolean|void)").matcher(code);
        Due.holds("static fields are final", !fixed.find());
        measures(code);
        Due.end();
    }

    /** A method ends with the first brace that is as far in as its own line; so does a class. */
    private static void measures(String code) {
        Matcher methods = Pattern.compile("(?ms)^( +)(?:(?:public|private|static) )*\\w+ \\w+\\(([^)]*)\\) \\{$.*?^\\1}").matcher(code);
        int seen = 0;
        while (methods.find()) {
            String head = methods.group().lines().findFirst().orElse("").trim();
            Due.holds("sixty lines at most: " + head, methods.group().lines().count() <= 60);
            Due.holds("seven parameters at most: " + head, methods.group(2).split(",").length <= 7);
            seen++;
        }
        Due.holds("methods are seen", seen > 100);
        Matcher classes = Pattern.compile("(?ms)^( *)(?:\\w+ )+class (\\w+) \\{$.*?^\\1}").matcher(code);
        int classesSeen = 0;
        for (int from = 0; classes.find(from); from = classes.start() + 1) {
            classesSeen++;
            String fields = "(?m)^" + classes.group(1) + "    private (?:final )?[\\w\\[\\]]+ \\w+;";
            long count = Pattern.compile(fields).matcher(classes.group()).results().count();
            Due.holds("twenty fields at most: " + classes.group(2), count <= 20);
        }
        Due.holds("the classes inside are seen", classesSeen > 1);
    }
}
