import java.io.IOException;
import java.nio.file.Files;
import java.nio.file.Path;
import java.util.ArrayList;
import java.util.List;
import java.util.TreeSet;
import java.util.regex.Matcher;
import java.util.regex.Pattern;
import java.util.stream.Stream;

/** What README.md says of the use of the class and of its tests is true; run from the project's directory. */
public final class ReadmeTest {
    private static final Path README = Path.of("README.md");
    private static final Path TESTS = Path.of("src/test/java");
    private static final Path ITSELF = TESTS.resolve("ReadmeTest.java");

    private static final Checks checks = new Checks();

    public static void main(String[] args) throws IOException {
        use();
        useStandsInReadme();
        testsAreNamed();
        checks.finish();
    }

    /** The lines of README.md, in their order, with checks of what its comments say between them. */
    private static void use() {
        checks.about("README.md, Use");
        PaneScreen screen = new PaneScreen();
        int back = screen.open(2, 2, 5, 4);
        screen.fill(back, 0, 0, 4 * 32 + 5, 7);
        screen.pen(back, 0, 0);
        int drawn = screen.line(back, 4, 3, 9);
        checks.same("drawn", drawn, 5);
        checks.same("picture", Look.picture(screen, back, 5, 4), "97777/79777/77997/77779");
        int front = screen.open(4, 2, 6, 3);
        checks.same("focus", screen.figure(0), front);
        screen.plot(front, 0, 0, 8);
        int painted = screen.flush();
        checks.same("painted", painted, 29);
        int colour = screen.screen(4, 2);
        checks.same("colour", colour, 8);
        int seen = screen.visible(back);
        checks.same("seen", seen, 11);

        StringBuilder told = new StringBuilder();
        screen.key('k');
        screen.click(2, 2);
        checks.same("it comes to the front", screen.figure(2), back);
        while (screen.figure(6) > 0) {
            int kind = screen.next();
            int window = screen.event(0);
            int one = screen.event(1);
            int two = screen.event(2);
            told.append(kind).append(' ').append(window).append(' ').append(one).append(' ').append(two).append('/');
        }
        checks.same("events", told.toString(), "2 1 107 0/4 1 0 0/3 0 0 0/1 0 0 0/");
        screen.close(front);
        int repainted = screen.flush();
        checks.same("repainted", repainted, 29);
    }

    private static void useStandsInReadme() throws IOException {
        checks.about("README.md, Use: its lines are the ones that are run here");
        List<String> run = Files.readAllLines(ITSELF);
        int from = 0;
        List<String> lines = linesOfUse();
        for (String line : lines) {
            int found = from;
            while (found < run.size() && !run.get(found).strip().equals(line)) {
                found++;
            }
            checks.same(line, found < run.size(), true);
            from = found < run.size() ? found + 1 : from;
        }
        checks.same("there are none", lines.isEmpty(), false);
    }

    private static List<String> linesOfUse() throws IOException {
        List<String> lines = new ArrayList<>();
        boolean within = false;
        for (String line : Files.readAllLines(README)) {
            if (line.startsWith("```")) {
                within = line.equals("```java");
            } else if (within && !line.isBlank()) {
                lines.add(line.replaceFirst("//.*", "").strip());
            }
        }
        return lines;
    }

    private static void testsAreNamed() throws IOException {
        checks.about("README.md, Tests: it names the files of src/test/java");
        TreeSet<String> there = new TreeSet<>();
        try (Stream<Path> files = Files.list(TESTS)) {
            files.map(file -> file.getFileName().toString()).filter(name -> name.endsWith(".java"))
                    .forEach(name -> there.add(name.replace(".java", "")));
        }
        TreeSet<String> named = new TreeSet<>();
        String text = Files.readString(README);
        String list = text.substring(text.indexOf("In `src/test/java`"));
        Matcher names = Pattern.compile("`([A-Z][A-Za-z]+)`").matcher(list);
        while (names.find()) {
            named.add(names.group(1));
        }
        checks.same("names", named.toString(), there.toString());
    }
}
