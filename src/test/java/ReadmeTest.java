import java.io.IOException;
import java.lang.reflect.Method;
import java.lang.reflect.Modifier;
import java.nio.file.DirectoryStream;
import java.nio.file.Files;
import java.nio.file.Path;

/** README.md names every call and every test program, and its examples answer what it says. */
public final class ReadmeTest {
    public static void main(String[] args) throws IOException {
        String page = Files.readString(Path.of("README.md"));
        namesCalls(page);
        namesTests(page);
        examples();
        Run.finish();
    }

    private static void namesCalls(String page) {
        for (Method m : MarshCourt.class.getDeclaredMethods()) {
            if (Modifier.isPublic(m.getModifiers())) {
                Run.holds("README", "it names the call " + m.getName(), page.contains("`" + m.getName() + "`"));
            }
        }
    }

    private static void namesTests(String page) throws IOException {
        try (DirectoryStream<Path> files = Files.newDirectoryStream(Path.of("src/test/java"), "*.java")) {
            for (Path file : files) {
                String name = file.getFileName().toString();
                String bare = name.replace(".java", "");
                Run.holds("README", "it names " + name, page.contains("`" + bare + "`") || page.contains("`" + name + "`"));
            }
        }
    }

    private static void examples() {
        MarshCourt m = new MarshCourt();
        Run.equal("README", "level", m.level(7, 30), 0);
        int rod = m.rod(0, 0, 40);
        Run.equal("README", "rod", rod, 0);
        Run.equal("README", "tide", m.tide(60, 2, 3), 1);
        Run.equal("README", "about", m.about(rod, 2), 0);
        Run.equal("README", "mend", m.mend(rod, 5, 45), 45);
        Run.equal("README", "a refusal", m.rod(0, 7, 40), MarshCourt.BAD);
        Run.equal("README", "feed", m.feed(0x682035303b662037L, 8), 8);
        Run.equal("README", "court", m.court(1), 0);
        Run.equal("README", "h", m.custom(1, 1, 1), 50);
        Run.equal("README", "f", m.custom(1, 1, 2), 7);
        Run.equal("README", "view", m.view(rod), 5);
        Run.equal("README", "feed, once more", m.feed(0x68203939L, 4), 4);
        Run.equal("README", "feed behind it", m.feed(0x39L, 1), 5);
        Run.equal("README", "court, a fault", m.court(1), -14);
        Run.equal("README", "the tape", m.count(9), 0);
    }
}
