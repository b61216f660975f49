import java.io.IOException;
import java.lang.reflect.Constructor;
import java.lang.reflect.Field;
import java.lang.reflect.Method;
import java.lang.reflect.Modifier;
import java.nio.file.Files;
import java.nio.file.Path;
import java.util.Set;
import java.util.TreeSet;
import java.util.regex.Matcher;
import java.util.regex.Pattern;
import java.util.stream.Stream;

/** What can be seen of LANGUAGE.md's rules from the source and from the compiled class. */
public final class LanguageTest {
    private static final Check check = new Check();
    private static final Path SOURCE = Path.of("src/main/java/OneEye.java");
    private static final Set<String> FACE = Set.of("state", "three", "fact", "trust", "feed", "end", "text", "fault",
        "minutes", "where", "knows", "origin", "noise", "heard", "held", "of", "book", "errand", "talk", "danger",
        "way", "spot", "felt", "liars", "watch", "watches", "lends", "ring", "image", "look");

    public static void main(String[] args) throws IOException {
        String source = Files.readString(SOURCE);
        String code = source.replaceAll("(?s)/\\*.*?\\*/", "").replaceAll("//[^\n]*", "");
        face();
        forbiddenWords(code);
        libraryCalls(code);
        sizes(code);
        for (int i = 0; i < source.length(); i++) {
            if (source.charAt(i) > 127) {
                check.due("sign " + i + " beyond 127", true, false);
            }
        }
        check.finish();
    }

    private static void face() {
        check.about("rule 1");
        check.due("final", Modifier.isFinal(OneEye.class.getModifiers()), true);
        Set<String> open = new TreeSet<>();
        for (Method m : OneEye.class.getDeclaredMethods()) {
            boolean isPublic = Modifier.isPublic(m.getModifiers());
            check.due(m + " is public or private", isPublic || Modifier.isPrivate(m.getModifiers()), true);
            if (isPublic) {
                open.add(m.getName());
            }
            check.due(m + " is of the face", FACE.contains(m.getName()), isPublic);
        }
        check.due("the whole face", open.equals(new TreeSet<>(FACE)), true);
        for (Field f : OneEye.class.getDeclaredFields()) {
            check.due(f + " is private", Modifier.isPrivate(f.getModifiers()), !f.getName().equals("NONE"));
        }
        Constructor<?>[] constructors = OneEye.class.getDeclaredConstructors();
        check.due("one constructor", constructors.length == 1 && Modifier.isPublic(constructors[0].getModifiers()), true);
        for (Class<?> inner : OneEye.class.getDeclaredClasses()) {
            check.due(inner + " is static", Modifier.isStatic(inner.getModifiers()), true);
            for (Method m : inner.getDeclaredMethods()) {
                check.due(m + " has a name of the face", FACE.contains(m.getName()), false);
                check.due(m + " takes at most seven", m.getParameterCount() <= 7, true);
            }
            for (Field f : inner.getDeclaredFields()) {
                boolean fixed = !Modifier.isStatic(f.getModifiers()) || Modifier.isFinal(f.getModifiers());
                check.due(f + " is no static state", fixed, true);
            }
            check.due(inner + " has at most twenty fields", ownFields(inner) <= 20, true);
        }
        check.due("the class has at most twenty fields", ownFields(OneEye.class) <= 20, true);
        check.due("at most twelve classes", OneEye.class.getDeclaredClasses().length < 12, true);
    }

    private static long ownFields(Class<?> of) {
        return Stream.of(of.getDeclaredFields()).filter(f -> !Modifier.isStatic(f.getModifiers())).count();
    }

    private static void forbiddenWords(String code) {
        check.about("rules 2 to 6 and 13");
        String[] words = {"throw", "throws", "try", "catch", "synchronized", "assert", "package", "protected", "->", "::",
            "hashCode", "toString", "Random", "Thread", "File", "currentTimeMillis", "nanoTime", "Exact\\(", "var",
            "Object", "Map", "Set<", "instanceof", "import static", "volatile", "native", "strictfp", "goto"};
        for (String word : words) {
            String pattern = Character.isLetter(word.charAt(0)) ? "\\b" + word + (word.endsWith("<") || word.endsWith("(")
                ? "" : "\\b") : word;
            check.due("'" + word + "' stands in it", Pattern.compile(pattern).matcher(code).find(), false);
        }
        check.due("imports", code.replaceAll("(?s)public final class.*", "").trim().equals("import java.util.Arrays;"), true);
        check.due("joining texts by +", Pattern.compile("\"\\s*\\+|\\+\\s*\"").matcher(code).find(), false);
        check.due("static {", Pattern.compile("static\\s*\\{").matcher(code).find(), false);
    }

    private static void libraryCalls(String code) {
        check.about("rule 4");
        Set<String> allowed = Set.of("Arrays.fill", "System.arraycopy", "Integer.bitCount", "Math.min", "Math.max",
            "WORDS.charAt", "WORDS.length");
        Matcher m = Pattern.compile("\\b[A-Z]\\w*\\.\\w+").matcher(code);
        while (m.find()) {
            if (!m.group().startsWith("OneEye.")) {
                check.due(m.group() + " is allowed", allowed.contains(m.group()), true);
            }
        }
    }

    private static void sizes(String code) {
        check.about("rule 11");
        int length = 0;
        boolean inside = false;
        for (String line : code.split("\n")) {
            if (line.matches("\\s+(public |private )?(static )?[\\w\\[\\]]+ ?\\w*\\(.*\\) \\{") && !line.matches(".*\\b(if|for|while|switch)\\b.*")) {
                inside = true;
                length = 0;
            }
            length++;
            if (inside && line.matches("\\s+\\}") && length > 60) {
                check.due("a method of " + length + " lines", true, false);
            }
            check.due("a line of " + line.length() + " signs", line.length() <= 120, true);
            if (line.isBlank()) {
                inside = false;
            }
        }
    }
}
