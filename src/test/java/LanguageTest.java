import java.lang.reflect.Field;
import java.lang.reflect.Method;
import java.lang.reflect.Modifier;
import java.nio.charset.StandardCharsets;
import java.nio.file.Files;
import java.nio.file.Path;
import java.util.List;
import java.util.Set;
import java.util.TreeSet;
import java.util.regex.Matcher;
import java.util.regex.Pattern;

/** What of ../shared/LANGUAGE.md can be looked at from outside: the face, the classes, the words of the source. */
public final class LanguageTest {
    private static final Path SOURCE = Path.of("src/main/java/NineWindows.java");
    private static final String FACE = "act add begin best book count feed from house image item judge late leave "
        + "looked mean next odds of on pass put read round row see shift shut sides stand storm taken tape told trace "
        + "two undo window worth";

    private static void is(String rule, boolean holds) {
        Check.due(rule, holds ? 1 : 0, 1);
    }

    private static void face() {
        Set<String> open = new TreeSet<>();
        for (Method m : NineWindows.class.getDeclaredMethods()) {
            if (Modifier.isPublic(m.getModifiers())) open.add(m.getName());
            else is("rule 1: private: " + m, Modifier.isPrivate(m.getModifiers()));
        }
        is("rule 1: the methods of the face: " + open, String.join(" ", open).equals(FACE));
        Set<String> constants = new TreeSet<>();
        for (Field f : NineWindows.class.getDeclaredFields()) {
            if (Modifier.isPublic(f.getModifiers())) constants.add(f.getName());
            else is("rule 1: private: " + f, Modifier.isPrivate(f.getModifiers()));
        }
        is("rule 1: the constants: " + constants, constants.equals(Set.of("NONE", "BAD", "STATE", "FULL", "NO")));
        is("rule 1: final", Modifier.isFinal(NineWindows.class.getModifiers()));
        is("rule 1: one constructor", NineWindows.class.getConstructors().length == 1
            && NineWindows.class.getDeclaredConstructors().length == 1);
    }

    private static void classes() {
        Class<?>[] inside = NineWindows.class.getDeclaredClasses();
        is("rule 11: twelve classes at most", inside.length + 1 <= 12);
        parts(NineWindows.class, true);
        for (Class<?> c : inside) {
            is("rule 2: static: " + c, Modifier.isStatic(c.getModifiers()));
            is("rule 1: not open: " + c, !Modifier.isPublic(c.getModifiers()) && !Modifier.isProtected(c.getModifiers()));
            parts(c, false);
        }
    }

    private static void parts(Class<?> c, boolean isFace) {
        int fields = 0;
        for (Field f : c.getDeclaredFields()) {
            if (!Modifier.isStatic(f.getModifiers())) fields++;
            else is("rule 5: final: " + f, Modifier.isFinal(f.getModifiers()));
        }
        is("rule 11: twenty fields at most: " + c, fields <= 20);
        List<String> open = List.of(FACE.split(" "));
        for (Method m : c.getDeclaredMethods()) {
            is("rule 11: seven parameters at most: " + m, m.getParameterCount() <= 7);
            boolean isOfFace = isFace && Modifier.isPublic(m.getModifiers());
            is("rule 1: no other bears the name: " + m, isOfFace || !open.contains(m.getName()));
        }
    }

    private static void words(String source) {
        String code = source.replaceAll("(?s)/\\*.*?\\*/", "").replaceAll("//[^\n]*", "");
        String[] none = {"\\bthrow\\b", "\\btry\\b", "\\bcatch\\b", "\\bsynchronized\\b", "\\bassert\\b", "\\bimport\\b",
            "\\bpackage\\b", "->", "::", "Exact\\b", "System\\.(?!arraycopy)", "\\bThread\\b", "\\bRandom\\b",
            "\\bvar\\b", "\\bObject\\b", "\\bdouble\\b", "\\bfloat\\b", "\" *\\+", "\\+ *\""};
        for (String word : none) is("rules 3, 4, 6, 13: no " + word, !Pattern.compile(word).matcher(code).find());
        for (int i = 0; i < source.length(); i++) {
            if (source.charAt(i) > 126) is("rule 4: the sign at " + i, false);
        }
    }

    /** Methods are short, and only constructors and fields make objects. */
    private static void methods(String source) {
        String[] lines = source.split("\n");
        Pattern head = Pattern.compile("^( +)[\\w\\[\\]. ]*?\\b(\\w+)\\([^;=]*\\) \\{$");
        for (int i = 0; i < lines.length; i++) {
            Matcher m = head.matcher(lines[i]);
            if (!m.find() || lines[i].trim().matches("(if|for|while|switch|else|}).*")) continue;
            int end = i;
            boolean makes = false;
            while (!lines[end].equals(m.group(1) + "}")) {
                makes |= lines[end].matches(".*\\bnew\\b.*");
                end++;
            }
            is("rule 11: sixty lines at most: " + m.group(2), end - i <= 60);
            boolean isConstructor = Character.isUpperCase(m.group(2).charAt(0));
            is("rule 12: it makes no object: " + m.group(2), isConstructor || !makes);
        }
    }

    public static void main(String[] args) throws Exception {
        String source = Files.readString(SOURCE, StandardCharsets.ISO_8859_1);
        face();
        classes();
        words(source);
        methods(source);
        Check.end("LanguageTest");
    }
}
