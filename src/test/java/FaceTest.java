import java.lang.reflect.Constructor;
import java.lang.reflect.Field;
import java.lang.reflect.Method;
import java.lang.reflect.Modifier;
import java.nio.file.Files;
import java.nio.file.Path;
import java.util.ArrayList;
import java.util.Arrays;
import java.util.Collections;
import java.util.HashSet;
import java.util.List;
import java.util.Set;
import java.util.regex.Matcher;
import java.util.regex.Pattern;

/** The public face, and the rules of LANGUAGE.md that a program can look at. */
public final class FaceTest {
    private static final String FACE = "level(int,int) cell(int,int) sell(int,int,int,int,int) held(int,int,int,int) "
            + "rod(int,int,int) sluice(int,int) about(int,int) gate(int,int,int) herd(int) drive(int,int) where(int) "
            + "way(int,int,int) tide(int,int,int) pass(int) year() feed(long,int) court(int) custom(int,int,int) "
            + "mender(int,int,int,int) view(int) mend(int,int,int) fault(int,int) fines(int) mended(int) "
            + "works(int,int) scot(int,int) count(int)";

    public static void main(String[] args) throws Exception {
        methods();
        fieldsAndConstructors();
        classesInside();
        source();
        faceOfTheDocument();
        partsOfTheInterface();
        Run.finish();
    }

    private static void methods() {
        List<String> seen = new ArrayList<>();
        for (Method m : MarshCourt.class.getDeclaredMethods()) {
            if (!Modifier.isPrivate(m.getModifiers())) {
                seen.add(signature(m));
                Run.holds("face", m + " is public and answers an int", Modifier.isPublic(m.getModifiers())
                        && !Modifier.isStatic(m.getModifiers()) && m.getReturnType() == int.class);
            }
        }
        List<String> due = new ArrayList<>(Arrays.asList(FACE.split(" ")));
        Collections.sort(seen);
        Collections.sort(due);
        Run.holds("face", "the methods are " + due + ", seen " + seen, seen.equals(due));
    }

    private static String signature(Method m) {
        List<String> types = new ArrayList<>();
        for (Class<?> type : m.getParameterTypes()) {
            types.add(type.getName());
        }
        return m.getName() + "(" + String.join(",", types) + ")";
    }

    private static void fieldsAndConstructors() {
        Run.equal("face", "NONE", MarshCourt.NONE, -1);
        Run.equal("face", "BAD", MarshCourt.BAD, -2);
        Run.equal("face", "STATE", MarshCourt.STATE, -3);
        Run.equal("face", "FULL", MarshCourt.FULL, -4);
        Set<String> open = new HashSet<>();
        for (Field f : MarshCourt.class.getDeclaredFields()) {
            if (!Modifier.isPrivate(f.getModifiers())) {
                open.add(f.getName());
                Run.equal("face", f + " is public static final", f.getModifiers(),
                        Modifier.PUBLIC | Modifier.STATIC | Modifier.FINAL);
            }
        }
        Run.holds("face", "no other field is seen: " + open, open.equals(Set.of("NONE", "BAD", "STATE", "FULL")));
        Constructor<?>[] made = MarshCourt.class.getDeclaredConstructors();
        Run.equal("face", "constructors", made.length, 1);
        Run.holds("face", "the constructor", made[0].getParameterCount() == 0 && Modifier.isPublic(made[0].getModifiers()));
        Run.equal("face", "the class is public final", MarshCourt.class.getModifiers(), Modifier.PUBLIC | Modifier.FINAL);
    }

    private static void classesInside() {
        Class<?>[] inside = MarshCourt.class.getDeclaredClasses();
        Run.holds("rule 11", "some twelve classes", inside.length <= 11);
        Set<String> face = new HashSet<>();
        for (Method m : MarshCourt.class.getDeclaredMethods()) {
            if (Modifier.isPublic(m.getModifiers())) {
                face.add(m.getName());
            }
        }
        for (Class<?> c : inside) {
            int how = c.getModifiers();
            Run.holds("rule 1", c + " is static and not public", Modifier.isStatic(how) && !Modifier.isPublic(how)
                    && !Modifier.isProtected(how));
            Run.holds("rule 2", c + " has no class inside", c.getDeclaredClasses().length == 0);
            for (Method m : c.getDeclaredMethods()) {
                Run.holds("rule 1", m + " has a name of its own", !face.contains(m.getName()));
                Run.holds("rule 11", m + " takes seven at most", m.getParameterCount() <= 7);
            }
            Run.holds("rule 11", c + " has some twenty fields", c.getDeclaredFields().length <= 25);
        }
    }

    private static void source() throws Exception {
        String text = Files.readString(Path.of("src/main/java/MarshCourt.java"));
        String code = text.replaceAll("(?s)/\\*.*?\\*/", " ").replaceAll("//[^\n]*", " ");
        for (String word : "throw try catch synchronized assert interface enum double float".split(" ")) {
            Matcher m = Pattern.compile("\\b" + word + "\\b").matcher(code);
            Run.holds("rules 3, 6", "'" + word + "' does not stand in the class", !m.find());
        }
        for (String sign : "-> :: Exact [][] Object System. Integer. List".split(" ")) {
            Run.holds("rules 2 to 6", "'" + sign + "' does not stand in the class", !code.contains(sign));
        }
        for (char sign : text.toCharArray()) {
            if (sign > 126) {
                Run.holds("rule 4", "sign " + (int) sign + " stands in the class", false);
            }
        }
        Run.holds("rule 4", "only Arrays is taken from the library",
                code.replace("import java.util.Arrays;", "").indexOf("import") < 0);
    }

    /** Each line of the document's face stands in the class as it is there, in the same order. */
    private static void faceOfTheDocument() throws Exception {
        String text = Files.readString(Path.of("src/main/java/MarshCourt.java"));
        String document = Files.readString(Path.of("../shared/DOC.md"));
        String face = document.substring(document.indexOf("```java"), document.indexOf("## Terms"));
        int at = 0;
        int lines = 0;
        for (String line : face.split("\n")) {
            if (line.contains("public")) {
                String due = line.trim().replace(");", ") {");
                int found = text.indexOf(due, at);
                Run.holds("face", "'" + due + "' stands in the class, behind those told ahead of it", found >= 0);
                at = Math.max(at, found);
                lines++;
            }
        }
        Run.equal("face", "the class, the constants, the constructor, the calls", lines, 3 + FACE.split(" ").length);
    }

    /** "Ahead of the calls .. the interface says: ---- .." */
    private static void partsOfTheInterface() throws Exception {
        String text = Files.readString(Path.of("src/main/java/MarshCourt.java"));
        int parts = 0;
        for (String line : Files.readAllLines(Path.of("../shared/DOC.md"))) {
            Matcher m = Pattern.compile("Ahead of the calls `(\\w+)`.* the interface says: ---- (.*)\\.").matcher(line);
            if (m.matches()) {
                String due = "    // ---- " + m.group(2) + "\n\n    public int " + m.group(1) + "(";
                Run.holds("face", "'---- " + m.group(2) + "' stands ahead of " + m.group(1), text.contains(due));
                parts++;
            }
        }
        Run.equal("face", "parts", parts, 5);
    }
}
