import java.io.IOException;
import java.lang.reflect.Field;
import java.lang.reflect.Method;
import java.lang.reflect.Modifier;
import java.nio.file.Files;
import java.nio.file.Path;
import java.util.Arrays;
import java.util.Set;
import java.util.TreeSet;
import java.util.regex.Matcher;
import java.util.regex.Pattern;

/** The face is the document's and no more; the source keeps to what LANGUAGE.md leaves, as far as a scan can tell. */
public final class FaceTest {
    private static final Checks CHECKS = new Checks();
    private static final Path SOURCE = Path.of("src/main/java/CardLoops.java");
    private static final String[] FACE = {"feed(int,int,int,int,int)int", "end(int)boolean", "text()int",
        "fault()int", "now(int)int", "station(int,int)int", "waits(int,int)int", "loop(int,int)int", "next(int)int",
        "when(int,int)int", "pace(int)int", "bound(int)int", "needs(int,int,int)int", "least(int,int,int)int",
        "longer(int,int)int", "longest()int", "pass(int)int", "step()int", "cards(int,int)int", "anew()int",
        "undo()int"};
    private static final String[] BANNED = {"->", "::", "Exact(", "finally", "synchronized", "assert ", "catch",
        "@Override", "package ", "static {", "instanceof", "System.out", "new IllegalStateException", "float", "double"};

    /** What LANGUAGE.md's rule 4 lists and the class uses: a name of the library, a dot, a name of it. */
    private static final Set<String> LIBRARY = Set.of("Arrays.fill", "Math.max", "Math.min", "System.arraycopy");

    public static void main(String[] args) throws IOException {
        members();
        nested();
        source();
        library();
        documentsFace();
        CHECKS.close();
    }

    private static void members() {
        Set<String> open = new TreeSet<>();
        Set<String> hidden = new TreeSet<>();
        for (Method m : CardLoops.class.getDeclaredMethods()) {
            if (Modifier.isPublic(m.getModifiers())) {
                StringBuilder b = new StringBuilder(m.getName()).append('(');
                for (Class<?> c : m.getParameterTypes()) {
                    b.append(b.charAt(b.length() - 1) == '(' ? "" : ",").append(c.getName());
                }
                open.add(b.append(')').append(m.getReturnType().getName()).toString());
            } else {
                CHECKS.due(m + " is private", Modifier.isPrivate(m.getModifiers()), true);
                hidden.add(m.getName());
            }
        }
        Set<String> face = new TreeSet<>(Arrays.asList(FACE));
        CHECKS.due("methods " + open + " as the document has them", open.equals(face), true);
        for (String method : FACE) {
            String name = method.substring(0, method.indexOf('('));
            CHECKS.due("no private " + name, hidden.contains(name), false);
        }
        for (Field f : CardLoops.class.getDeclaredFields()) {
            boolean isNone = f.getName().equals("NONE");
            CHECKS.due(f + " public", Modifier.isPublic(f.getModifiers()), isNone);
            CHECKS.due(f + " private", Modifier.isPrivate(f.getModifiers()), !isNone);
            if (Modifier.isStatic(f.getModifiers())) {
                CHECKS.due(f + " final", Modifier.isFinal(f.getModifiers()), true);
            }
        }
        CHECKS.due("constructors", CardLoops.class.getDeclaredConstructors().length, 1);
        CHECKS.due("public constructors", CardLoops.class.getConstructors().length, 1);
        CHECKS.due("final", Modifier.isFinal(CardLoops.class.getModifiers()), true);
    }

    private static void nested() {
        Class<?>[] inside = CardLoops.class.getDeclaredClasses();
        CHECKS.due("classes", inside.length < 12, true);
        for (Class<?> c : inside) {
            CHECKS.due(c + " static", Modifier.isStatic(c.getModifiers()), true);
            CHECKS.due(c + " public", Modifier.isPublic(c.getModifiers()), false);
            int fields = 0;
            for (Field f : c.getDeclaredFields()) {
                fields += Modifier.isStatic(f.getModifiers()) ? 0 : 1;
            }
            CHECKS.due(c + " fields", fields <= 20, true);
            for (Method m : c.getDeclaredMethods()) {
                CHECKS.due(m + " parameters", m.getParameterCount() <= 7, true);
                for (String method : FACE) {
                    CHECKS.due(m + " has a name of its own", method.startsWith(m.getName() + "("), false);
                }
            }
        }
    }

    /** LANGUAGE.md, rule 4: "The library: only what stands here." */
    private static void library() throws IOException {
        Matcher m = Pattern.compile("\\b[A-Z][A-Za-z]*\\.[A-Za-z_]+").matcher(Files.readString(SOURCE));
        while (m.find()) {
            CHECKS.due(m.group() + " is of the library's list", LIBRARY.contains(m.group()), true);
        }
    }

    /** "The public face": each of the document's lines stands in the source, to the letter. */
    private static void documentsFace() throws IOException {
        String source = Files.readString(SOURCE);
        int found = 0;
        for (String line : Files.readAllLines(Path.of("../shared/DOC.md"))) {
            String due = line.trim();
            if (due.startsWith("public ")) {
                found++;
                String written = due.endsWith(");") || due.endsWith("Exception;")
                    ? due.substring(0, due.length() - 1) + " {" : due;
                CHECKS.due("the source has '" + written + "'", source.contains(written), true);
            }
        }
        CHECKS.due("lines of the document's face", found, FACE.length + 3);
    }

    private static void source() throws IOException {
        String text = Files.readString(SOURCE);
        for (int i = 0; i < text.length(); i++) {
            if (text.charAt(i) > 126) {
                CHECKS.due("a sign above 126 at " + i, 1, 0);
            }
        }
        for (String banned : BANNED) {
            CHECKS.due("'" + banned + "' in the source", text.contains(banned), false);
        }
        int start = -1;
        String[] lines = text.split("\n");
        for (int i = 0; i < lines.length; i++) {
            if (lines[i].startsWith("import ")) {
                CHECKS.due(lines[i], lines[i].matches("import java.util.(Arrays|NoSuchElementException);"), true);
            }
            if (lines[i].matches(" {4,8}[A-Za-z].*\\) (throws \\w+ )?\\{") && !lines[i].trim().matches("(for|if|while|switch).*")) {
                start = i;
            }
            if (start >= 0 && lines[i].matches(" {4,8}\\}")) {
                CHECKS.due("lines of " + lines[start].trim() + " " + (i - start), i - start <= 60, true);
            }
        }
    }
}
