import com.sun.management.ThreadMXBean;
import java.io.IOException;
import java.lang.management.ManagementFactory;
import java.lang.reflect.Constructor;
import java.lang.reflect.Field;
import java.lang.reflect.Member;
import java.lang.reflect.Method;
import java.lang.reflect.Modifier;
import java.nio.file.Files;
import java.nio.file.Path;
import java.util.Set;
import java.util.TreeSet;
import java.util.regex.Matcher;
import java.util.regex.Pattern;

/** The face of the class, and those rules of LANGUAGE.md that can be seen without reading it. */
public final class LanguageTest {
    private static final String FACE = "type(2) wipe(1) undo(1) fault(1) door(2) person(2) ahead(1) event(3) back(0) "
        + "read(1) at(3) room(2) far(3) meet(2) empty(1) found(1) crowd(1) alone(0) sleep(2) nice(2) lens(1) "
        + "spare(1) seen(3) forget(0) never(0) was(2) ask(1) chance(4) weeks(3) sheet(3) lose(1) put(4) get(3) "
        + "copy(5) write(2) count(1) digest(0)";
    private static final String[] BANNED = {"throw", "try", "catch", "finally", "synchronized", "assert", "::", "Random",
        "import static", "System\\.(?!arraycopy)", "Object", "protected", "package", "volatile", "Thread", "Exact\\("};
    private static final Set<String> IMPORTS = Set.of("java.util.Arrays", "java.util.ArrayList", "java.util.List",
        "java.util.Iterator");
    private static final int MOST_LINES = 60, MOST_CALLS = 512;
    // What all calls of one run may hold: 7.3 million fields and elements, the largest of 8 bytes.
    private static final long MOST_BYTES = 8L * 7_300_000;

    private static final Checks checks = new Checks();

    public static void main(String[] args) throws IOException {
        face();
        members();
        room();
        source(Files.readString(Path.of("src/main/java/DollsAhead.java")));
        checks.end();
    }

    private static void face() {
        Set<String> got = new TreeSet<>();
        for (Method m : DollsAhead.class.getDeclaredMethods()) {
            if (!Modifier.isPrivate(m.getModifiers())) {
                got.add(m.getName() + "(" + m.getParameterCount() + ")");
                boolean isLong = m.getName().equals("chance") || m.getName().equals("digest");
                holds("type of " + m.getName(), m.getReturnType() == (isLong ? long.class : int.class));
                holds("static " + m.getName(), !Modifier.isStatic(m.getModifiers()));
                for (Class<?> parameter : m.getParameterTypes()) {
                    holds("a number that " + m.getName() + " takes", parameter == int.class);
                }
            }
        }
        holds("the face: " + got, got.equals(new TreeSet<>(Set.of(FACE.split(" ")))));
        Constructor<?>[] made = DollsAhead.class.getDeclaredConstructors();
        holds("one constructor", made.length == 1 && made[0].getParameterCount() == 0 && isPublic(made[0]));
        int modifiers = DollsAhead.class.getModifiers();
        holds("public and final", Modifier.isPublic(modifiers) && Modifier.isFinal(modifiers));
        holds("of no other class", DollsAhead.class.getSuperclass() == Object.class);
        holds("of no interface", DollsAhead.class.getInterfaces().length == 0);
        holds("without a package", DollsAhead.class.getPackageName().isEmpty());
    }

    private static void members() {
        for (Method m : DollsAhead.class.getDeclaredMethods()) {
            boolean isFace = (" " + FACE).contains(" " + m.getName() + "(" + m.getParameterCount() + ")");
            holds(m + " is public or private", isFace ? isPublic(m) : Modifier.isPrivate(m.getModifiers()));
            holds(m + " takes seven at most", m.getParameterCount() <= 7);
            boolean bearsName = (" " + FACE).contains(" " + m.getName() + "(");
            holds(m + " bears no public name", isFace || !bearsName);
        }
        for (Field f : DollsAhead.class.getDeclaredFields()) {
            boolean isFace = Set.of("NONE", "BAD", "NOT", "FULL").contains(f.getName());
            holds(f + " is public or private", isFace ? isPublic(f) : Modifier.isPrivate(f.getModifiers()));
            holds(f + " is an int, if of the face", !isFace || f.getType() == int.class);
            holds(f + " is static, if of the face", !isFace || Modifier.isStatic(f.getModifiers()));
        }
        holds("twelve classes at most", DollsAhead.class.getDeclaredClasses().length <= 12);
        for (Class<?> inside : DollsAhead.class.getDeclaredClasses()) {
            holds(inside + " is static", Modifier.isStatic(inside.getModifiers()));
            boolean isHidden = !isPublic(inside) && !Modifier.isProtected(inside.getModifiers());
            holds(inside + " is private or package-visible", isHidden);
            fields(inside);
        }
        fields(DollsAhead.class);
    }

    private static void fields(Class<?> type) {
        int own = 0;
        for (Field f : type.getDeclaredFields()) {
            boolean isStatic = Modifier.isStatic(f.getModifiers());
            holds(f + " is final if static", !isStatic || Modifier.isFinal(f.getModifiers()));
            own += isStatic ? 0 : 1;
        }
        holds(type + " has twenty fields at most", own <= 20);
    }

    private static boolean isPublic(Member m) {
        return Modifier.isPublic(m.getModifiers());
    }

    private static boolean isPublic(Class<?> type) {
        return Modifier.isPublic(type.getModifiers());
    }

    /** What the dearest calls of a run make, as far as this machine counts it. */
    private static void room() {
        boolean counts = ManagementFactory.getThreadMXBean() instanceof ThreadMXBean bean
            && bean.isThreadAllocatedMemorySupported() && bean.isThreadAllocatedMemoryEnabled();
        if (!counts) {
            System.out.println("this machine does not count what is made");
            return;
        }
        ThreadMXBean bean = (ThreadMXBean) ManagementFactory.getThreadMXBean();
        long self = Thread.currentThread().getId();
        long before = bean.getThreadAllocatedBytes(self);
        DollsAhead x = Checks.fullTexts();
        for (int e = 0; e < 8; e++) {
            x.event(e % 2, 2 * e, e);
        }
        for (int calls = 66 + 8; calls < MOST_CALLS; calls++) {
            if (calls % 16 == 0) {
                x.digest();
            } else {
                x.chance(1 + calls % 15, calls % 8, calls % 24, 0);
            }
        }
        long made = bean.getThreadAllocatedBytes(self) - before;
        holds("a run makes " + made + " bytes", made < MOST_BYTES);
    }

    private static void source(String text) {
        String code = text.replaceAll("(?s)/\\*.*?\\*/", "").replaceAll("//[^\n]*", "");
        for (String word : BANNED) {
            String edge = word.matches("\\w+") ? "\\b" : "";
            Matcher found = Pattern.compile(edge + word + edge).matcher(code);
            holds("the source says " + word, !found.find());
        }
        Matcher imported = Pattern.compile("(?m)^import ([^;]*);").matcher(code);
        while (imported.find()) {
            holds("import " + imported.group(1), IMPORTS.contains(imported.group(1)));
        }
        Matcher lambda = Pattern.compile("(?m)^(?!\\s*(case|default)\\b).*->").matcher(code);
        holds("no lambda", !lambda.find());
        holds("no sign above 127", text.chars().allMatch(c -> c <= 127));
        methodsAreShort(code);
    }

    private static void methodsAreShort(String code) {
        int lines = 0;
        String end = null;
        for (String line : code.split("\n")) {
            lines++;
            boolean isHead = line.matches(" +[\\w\\[\\] ]+\\([^()]*\\) \\{") && !line.matches(" *(if|for|while|switch)\\b.*");
            if (isHead) {
                end = line.substring(0, line.length() - line.stripLeading().length()) + "}";
                lines = 0;
            } else if (line.equals(end)) {
                holds("a method of " + lines + " lines", lines <= MOST_LINES);
                end = null;
            }
        }
    }

    private static void holds(String what, boolean so) {
        checks.due(what, so ? 1 : 0, 1);
    }
}
