import java.io.IOException;
import java.lang.reflect.Method;
import java.lang.reflect.Modifier;
import java.nio.file.Files;
import java.nio.file.Path;
import java.util.ArrayList;
import java.util.List;
import java.util.Set;
import java.util.TreeSet;
import java.util.regex.Matcher;
import java.util.regex.Pattern;

/** What README.md says of the class and of its tests. */
public final class ReadmeTest {
    private static final Path README = Path.of("README.md");
    private static final Path TESTS = Path.of("src/test/java");

    private static int wrong = 0;
    private static int looked = 0;
    private static List<String> example = new ArrayList<>();

    private static void fails(String what) {
        wrong++;
        System.out.println(what);
    }

    private static List<String> exampleOf(String readme) {
        List<String> lines = new ArrayList<>();
        Matcher block = Pattern.compile("(?s)```java\n(.*?)```").matcher(readme);
        if (block.find()) {
            for (String line : block.group(1).split("\n")) {
                if (!line.isBlank()) {
                    lines.add(line.trim());
                }
            }
        }
        return lines;
    }

    /** The next line of the example has to make this call; with an answer told, that one. */
    private static void says(String call, long answer) {
        String line = looked < example.size() ? example.get(looked) : "";
        looked++;
        Matcher told = Pattern.compile("(.*;) +// (-?\\d+)(:.*)?").matcher(line);
        if (!told.matches() || !told.group(1).equals(call)) {
            fails("not the next line of README's example: " + call + " but: " + line);
        } else if (Long.parseLong(told.group(2)) != answer) {
            fails("README says: " + line + " but the answer is " + answer);
        }
    }

    private static void does(String line) {
        if (looked >= example.size() || !example.get(looked).equals(line)) {
            fails("not the next line of README's example: " + line);
        }
        looked++;
    }

    private static void theExampleAnswersAsItSays() {
        OtherwiseCourt court = new OtherwiseCourt();
        does("OtherwiseCourt court = new OtherwiseCourt();");
        int first = court.suit(7, 10);
        says("int first = court.suit(7, 10);", first);
        int second = court.suit(6, 20);
        says("int second = court.suit(6, 20);", second);
        int third = court.suit(56, 30);
        says("int third = court.suit(56, 30);", third);
        int judge = court.judge(1, 1);
        says("int judge = court.judge(1, 1);", judge);
        says("court.hear(judge, first);", court.hear(judge, first));
        says("court.hear(judge, second);", court.hear(judge, second));
        says("court.decides(judge, first, 0);", court.decides(judge, first, 0));
        says("court.decides(judge, first, 1);", court.decides(judge, first, 1));
        says("court.best(judge, 7, -1);", court.best(judge, 7, -1));
        says("court.best(judge, 7, 0);", court.best(judge, 7, 0));
        does("for (char sign : \"weigh 3 p<2&!k=0;bar 4\".toCharArray()) {");
        for (char sign : "weigh 3 p<2&!k=0;bar 4".toCharArray()) {
            court.feed(sign);
        }
        does("court.feed(sign);");
        does("}");
        says("court.court();", court.court());
        says("court.score(judge, first, second);", court.score(judge, first, second));
        says("court.hear(9, first);", court.hear(9, first));
        if (looked != example.size()) {
            fails("README's example has more lines than were looked at");
        }
    }

    private static void eachCallStandsInTheTable(String readme) {
        Set<String> told = new TreeSet<>();
        Matcher row = Pattern.compile("(?m)^\\| (`[^|]*)\\|").matcher(readme);
        while (row.find()) {
            Matcher name = Pattern.compile("`(\\w+)`").matcher(row.group(1));
            while (name.find()) {
                if (!told.add(name.group(1))) {
                    fails("told twice: " + name.group(1));
                }
            }
        }
        Set<String> face = new TreeSet<>();
        for (Method method : OtherwiseCourt.class.getDeclaredMethods()) {
            if (Modifier.isPublic(method.getModifiers())) {
                face.add(method.getName());
            }
        }
        if (!told.equals(face)) {
            fails("README's table tells " + told + " but the class has " + face);
        }
    }

    private static void eachTestIsTold(String readme) throws IOException {
        Set<String> patterns = new TreeSet<>();
        Matcher told = Pattern.compile("(?m)^- `src/test/java/([\\w*]+\\.java)`").matcher(readme);
        while (told.find()) {
            patterns.add(told.group(1).replace(".", "\\.").replace("*", "\\w*"));
        }
        List<String> files = new ArrayList<>();
        try (var listed = Files.list(TESTS)) {
            listed.map(file -> file.getFileName().toString()).filter(name -> name.endsWith("Test.java")).forEach(files::add);
        }
        for (String file : files) {
            if (patterns.stream().noneMatch(file::matches)) {
                fails("README does not tell of " + file);
            }
        }
        for (String pattern : patterns) {
            if (files.stream().noneMatch(file -> file.matches(pattern))) {
                fails("README tells of " + pattern + ", which is not there");
            }
        }
    }

    public static void main(String[] args) throws IOException {
        String readme = Files.readString(README);
        example = exampleOf(readme);
        theExampleAnswersAsItSays();
        eachCallStandsInTheTable(readme);
        eachTestIsTold(readme);
        System.out.println("readme: " + looked + " lines of the example looked at, " + wrong + " faults");
        if (wrong != 0) {
            System.exit(1);
        }
    }
}
