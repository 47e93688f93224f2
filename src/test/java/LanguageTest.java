import java.io.IOException;
import java.nio.file.Files;
import java.nio.file.Path;
import java.util.List;
import java.util.Set;
import java.util.TreeSet;
import java.util.regex.Matcher;
import java.util.regex.Pattern;

/** What of LANGUAGE.md can be seen in the text of the class. */
public final class LanguageTest {
    private static final Path SOURCE = Path.of("src/main/java/OtherwiseCourt.java");
    private static final List<String> FORBIDDEN = List.of(
        "\\bthrows?\\b", "\\btry\\b", "\\bcatch\\b", "\\bfinally\\b", "\\bsynchronized\\b", "\\bassert\\b",
        "\\bimport\\b", "\\bpackage\\b", "\\bprotected\\b", "->", "::", "\\bstatic\\s*\\{", "\\bequals\\b",
        "\\bhashCode\\b", "\\btoString\\b", "\\w+Exact\\b", "\\bThread\\b", "\\bRandom\\b", "\\bSystem\\.(?!arraycopy)");

    private static int wrong = 0;

    private static void fails(String what) {
        wrong++;
        System.out.println(what);
    }

    private static String withoutComments(String text) {
        return text.replaceAll("(?s)/\\*.*?\\*/", "").replaceAll("//[^\n]*", "");
    }

    private static Set<String> names(String text, String pattern) {
        Set<String> names = new TreeSet<>();
        Matcher matcher = Pattern.compile(pattern).matcher(text);
        while (matcher.find()) {
            names.add(matcher.group(1));
        }
        return names;
    }

    private static void noMethodIsLong(String[] lines) {
        int from = -1;
        for (int i = 0; i < lines.length; i++) {
            if (lines[i].matches(" {4}( {4})?[^ /*}].*\\) \\{")) {
                from = i;
            } else if (from >= 0 && lines[i].matches(" {4}( {4})?\\}")) {
                if (i - from > 60) {
                    fails("a method of over 60 lines at line " + (from + 1));
                }
                from = -1;
            }
        }
    }

    public static void main(String[] args) throws IOException {
        String whole = Files.readString(SOURCE);
        String text = withoutComments(whole);
        for (String pattern : FORBIDDEN) {
            for (String found : names(text, "(" + pattern + ")")) {
                fails("not in this language: " + found);
            }
        }
        Set<String> ours = names(text, "(?m)^ {4}public (?:int|long) (\\w+)\\(");
        Set<String> others = names(text, "(?m)^ {4,8}(?!public|return|new)(?:private )?(?:static )?[\\w\\[\\]]+ (\\w+)\\([^;]*\\{$");
        if (ours.size() != 32) {
            fails("the face has " + ours.size() + " methods besides the constructor");
        }
        for (String name : others) {
            if (ours.contains(name)) {
                fails("a name of the face is borne by another method: " + name);
            }
        }
        if (names(text, "\\bclass (\\w+)").size() > 12) {
            fails("more than 12 classes");
        }
        noMethodIsLong(whole.split("\n"));
        System.out.println("language: " + others.size() + " methods behind the face looked at, " + wrong + " faults");
        if (wrong != 0) {
            System.exit(1);
        }
    }
}
