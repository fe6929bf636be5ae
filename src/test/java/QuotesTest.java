import java.io.IOException;
import java.nio.file.DirectoryStream;
import java.nio.file.Files;
import java.nio.file.Path;
import java.util.ArrayList;
import java.util.List;
import java.util.regex.Matcher;
import java.util.regex.Pattern;

/** Every sentence of the document's terms and promises is quoted by a test: one that none quotes may have none. */
public final class QuotesTest {
    private static final Pattern LITERAL = Pattern.compile("\"((?:[^\"\\\\]|\\\\.)*)\"");
    private static final int SHORTEST = 8;

    public static void main(String[] args) throws IOException {
        String text = terms(Files.readAllLines(Path.of("../shared/DOC.md"))).replaceAll("\\s+", " ");
        boolean[] quoted = new boolean[text.length()];
        for (String literal : literals()) {
            mark(text, literal, quoted);
        }
        Run.holds("quotes", "the document has its sentences", text.length() > 5000);
        for (String rest : unquoted(text, quoted)) {
            Run.holds("quotes", "a test quotes '" + rest + "'", false);
        }
        Run.finish();
    }

    /** The lines that bind: sections 1 to 6, and what stands behind the signature of each promise. */
    private static String terms(List<String> lines) {
        StringBuilder all = new StringBuilder();
        boolean inTerms = false;
        for (String line : lines) {
            inTerms = line.startsWith("## ") ? line.equals("## Terms") : inTerms;
            int behind = line.indexOf(")`: ");
            if (behind >= 0) {
                all.append(line.substring(behind + 4)).append('\n');
            } else if (inTerms && !line.startsWith("#") && !line.startsWith("```") && !line.startsWith("Ahead of the calls")) {
                all.append(line.replaceAll("======== \\d", "")).append('\n');
            }
        }
        return all.toString();
    }

    private static List<String> literals() throws IOException {
        List<String> all = new ArrayList<>();
        try (DirectoryStream<Path> files = Files.newDirectoryStream(Path.of("src/test/java"), "*Test.java")) {
            for (Path file : files) {
                Matcher m = LITERAL.matcher(Files.readString(file));
                while (m.find()) {
                    all.add(m.group(1));
                }
            }
        }
        return all;
    }

    private static void mark(String text, String literal, boolean[] quoted) {
        if (literal.length() < SHORTEST) {
            return;
        }
        for (int at = text.indexOf(literal); at >= 0; at = text.indexOf(literal, at + 1)) {
            for (int i = at; i < at + literal.length(); i++) {
                quoted[i] = true;
            }
        }
    }

    private static List<String> unquoted(String text, boolean[] quoted) {
        List<String> rests = new ArrayList<>();
        StringBuilder rest = new StringBuilder();
        for (int i = 0; i <= text.length(); i++) {
            if (i < text.length() && !quoted[i]) {
                rest.append(text.charAt(i));
                continue;
            }
            if (rest.toString().matches(".*[A-Za-z0-9].*")) {
                rests.add(rest.toString().trim());
            }
            rest.setLength(0);
        }
        return rests;
    }
}
