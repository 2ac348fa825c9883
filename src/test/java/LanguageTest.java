import java.io.IOException;
import java.lang.reflect.Constructor;
import java.lang.reflect.Field;
import java.lang.reflect.Member;
import java.lang.reflect.Method;
import java.lang.reflect.Modifier;
import java.nio.file.Files;
import java.nio.file.Path;
import java.util.Set;
import java.util.TreeSet;
import java.util.regex.Matcher;
import java.util.regex.Pattern;

/** The face of the class, and those rules of LANGUAGE.md that can be seen without reading it. */
public final class LanguageTest {
    private static final String FACE = "type(2) wipe(1) undo(1) fault(1) door(2) person(2) ahead(1) event(3) back(0) "
        + "read(1) at(3) room(2) far(3) meet(2) empty(1) found(1) crowd(1) alone(0) sleep(2) nice(2) lens(1) "
        + "spare(1) seen(3) forget(0) never(0) was(2) ask(1) chance(4) weeks(3) sheet(3) lose(1) put(4) get(3) "
        + "copy(5) write(2) count(1) digest(0)";
    private static final String[] BANNED = {"throw", "try", "catch", "finally", "synchronized", "assert", "->", "::",
        "import static", "System\\.out", "System\\.nanoTime", "Random", "Object", "var", "@\\w+", "lambda", "protected"};
    private static final int MOST_LINES = 60;

    private static final Checks checks = new Checks();

    public static void main(String[] args) throws IOException {
        face();
        members();
        source(Files.readString(Path.of("src/main/java/DollsAhead.java")));
        checks.end();
    }

    private static void face() {
        Set<String> got = new TreeSet<>();
        for (Method m : DollsAhead.class.getDeclaredMethods()) {
            if (!Modifier.isPrivate(m.getModifiers())) {
                got.add(m.getName() + "(" + m.getParameterCount() + ")");
                boolean isLong = m.getName().equals("chance") || m.getName().equals("digest");
                holds("type of " + m.getName(), m.getReturnType() == (isLong ? long.class : int.class));
            }
        }
        holds("the face: " + got, got.equals(new TreeSet<>(Set.of(FACE.split(" ")))));
        Constructor<?>[] made = DollsAhead.class.getDeclaredConstructors();
        holds("one constructor", made.length == 1 && made[0].getParameterCount() == 0);
    }

    private static void members() {
        for (Method m : DollsAhead.class.getDeclaredMethods()) {
            boolean isFace = FACE.contains(m.getName() + "(" + m.getParameterCount() + ")");
            holds(m + " is public or private", isFace ? isPublic(m) : Modifier.isPrivate(m.getModifiers()));
            holds(m + " takes seven at most", m.getParameterCount() <= 7);
            boolean bearsName = (" " + FACE).contains(" " + m.getName() + "(");
            holds(m + " bears no public name", isFace || !bearsName);
        }
        for (Field f : DollsAhead.class.getDeclaredFields()) {
            boolean isFace = Set.of("NONE", "BAD", "NOT", "FULL").contains(f.getName());
            holds(f + " is public or private", isFace ? isPublic(f) : Modifier.isPrivate(f.getModifiers()));
        }
        holds("twelve classes at most", DollsAhead.class.getDeclaredClasses().length <= 11);
        for (Class<?> inside : DollsAhead.class.getDeclaredClasses()) {
            holds(inside + " is static", Modifier.isStatic(inside.getModifiers()));
            fields(inside);
        }
        fields(DollsAhead.class);
    }

    private static void fields(Class<?> type) {
        int own = 0;
        for (Field f : type.getDeclaredFields()) {
            boolean isStatic = Modifier.isStatic(f.getModifiers());
            holds(f + " is final if static", !isStatic || Modifier.isFinal(f.getModifiers()));
            own += isStatic ? 0 : 1;
        }
        holds(type + " has twenty fields at most", own <= 20);
    }

    private static boolean isPublic(Member m) {
        return Modifier.isPublic(m.getModifiers());
    }

    private static void source(String text) {
        String code = text.replaceAll("(?s)/\\*.*?\\*/", "").replaceAll("//[^\n]*", "");
        for (String word : BANNED) {
            String edge = word.matches("\\w+") ? "\\b" : "";
            Matcher found = Pattern.compile(edge + word + edge).matcher(code);
            holds("the source says " + word, !found.find());
        }
        holds("one import", code.split("import ").length == 2 && code.contains("import java.util.Arrays;"));
        // Nothing is made in a call: rows are made in constructors, or stand at fields.
        Matcher made = Pattern.compile("(?m)^ {8,}(?!.*final int\\[\\])(.*\\bnew\\b.*)$").matcher(code);
        while (made.find()) {
            String line = made.group(1).trim();
            holds("made in a call: " + line, text.indexOf(line) < text.indexOf("// ---- doors, people, events"));
        }
        methodsAreShort(code);
    }

    private static void methodsAreShort(String code) {
        int lines = 0;
        String end = null;
        for (String line : code.split("\n")) {
            lines++;
            boolean isHead = line.matches(" +[\\w\\[\\] ]+\\([^()]*\\) \\{") && !line.matches(" *(if|for|while|switch)\\b.*");
            if (isHead) {
                end = line.substring(0, line.length() - line.stripLeading().length()) + "}";
                lines = 0;
            } else if (line.equals(end)) {
                holds("a method of " + lines + " lines", lines <= MOST_LINES);
                end = null;
            }
        }
    }

    private static void holds(String what, boolean so) {
        checks.due(what, so ? 1 : 0, 1);
    }
}
