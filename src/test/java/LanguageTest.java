import java.io.IOException;
import java.lang.reflect.Field;
import java.lang.reflect.Method;
import java.lang.reflect.Modifier;
import java.nio.file.Files;
import java.nio.file.Path;
import java.util.ArrayList;
import java.util.List;
import java.util.Set;
import java.util.TreeSet;
import java.util.regex.Matcher;
import java.util.regex.Pattern;

/** What of ../shared/LANGUAGE.md can be seen from outside; run where src/main/java/RunForIt.java is to be found. */
final class LanguageTest {
    private static final String FACE = "steps feed street queue law rule may after best by point more corner blind near"
        + " leaves over hadSeen line which runner wait three drawn log wrong tries book fits seed keep undo check count";
    private static final String[] BANNED = {"throw", "throws", "try", "catch", "finally", "synchronized", "assert", "import",
        "native", "volatile", "transient", "protected", "package", "Object", "hashCode", "toString", "yield", "var", "super",
        "System\\.(?!arraycopy)\\w+", "Thread", "Random", "->", "::", "while", "for \\(;", "for \\([^;)]*;;", "<[A-Z?]", "new \\w+\\([^)]*\\) \\{"};

    private LanguageTest() {
    }

    public static void main(String[] args) throws IOException {
        face();
        for (Class<?> inside : RunForIt.class.getDeclaredClasses()) {
            inside(inside);
        }
        Due.is("some twelve classes", true, RunForIt.class.getDeclaredClasses().length + 1 <= 12);
        source(Files.readString(Path.of("src/main/java/RunForIt.java")));
        Due.end();
    }

    private static void face() {
        Set<String> due = new TreeSet<>(List.of(FACE.split(" ")));
        Set<String> seen = new TreeSet<>();
        for (Method method : RunForIt.class.getDeclaredMethods()) {
            if (Modifier.isPublic(method.getModifiers())) {
                seen.add(method.getName());
                Due.is(method + " is the object's", false, Modifier.isStatic(method.getModifiers()));
            } else {
                Due.is(method + " is private", true, Modifier.isPrivate(method.getModifiers()));
                Due.is(method + " bears a public name", false, due.contains(method.getName()));
            }
        }
        Due.is("the face: " + seen, true, seen.equals(due));
        Due.is("public and final", Modifier.PUBLIC | Modifier.FINAL, RunForIt.class.getModifiers());
        Due.is("one constructor", 1, RunForIt.class.getDeclaredConstructors().length);
        for (Field field : RunForIt.class.getDeclaredFields()) {
            Due.is(field + " is private", !field.getName().equals("NONE"), Modifier.isPrivate(field.getModifiers()));
        }
        members(RunForIt.class);
    }

    private static void inside(Class<?> type) {
        Due.is(type + " is static", true, Modifier.isStatic(type.getModifiers()));
        Due.is(type + " is private", true, Modifier.isPrivate(type.getModifiers()));
        members(type);
    }

    private static void members(Class<?> type) {
        int fields = 0;
        for (Field field : type.getDeclaredFields()) {
            boolean isStatic = Modifier.isStatic(field.getModifiers());
            fields += isStatic ? 0 : 1;
            Due.is(field + " static and not final", false, isStatic && !Modifier.isFinal(field.getModifiers()));
        }
        Due.is(type + ": some twenty fields", true, fields <= 20);
        for (Method method : type.getDeclaredMethods()) {
            boolean isFace = type == RunForIt.class && Modifier.isPublic(method.getModifiers());
            Due.is(method + ": seven parameters", true, isFace || method.getParameterCount() <= 7);
            Due.is(method + " bears a public name", false, !isFace && List.of(FACE.split(" ")).contains(method.getName()));
        }
    }

    private static void source(String text) {
        String bare = text.replaceAll("(?s)/\\*.*?\\*/", "").replaceAll("//[^\n]*", "")
            .replaceAll("\"[^\"\n]*\"", "\"\"").replaceAll("'[^'\n]*'", "0");
        for (String banned : BANNED) {
            Matcher found = Pattern.compile(Character.isLetter(banned.charAt(0)) ? "\\b" + banned + "\\b" : banned).matcher(bare);
            Due.is("no " + banned, false, found.find());
        }
        Due.is("signs 1 to 127", true, text.chars().allMatch(c -> c < 127 && (c >= ' ' || c == '\n')));
        List<Integer> opened = new ArrayList<>();
        String[] lines = bare.split("\n");
        for (int i = 0; i < lines.length; i++) {
            if (lines[i].endsWith("{")) {
                opened.add(i);
            } else if (lines[i].trim().startsWith("}")) {
                int from = opened.remove(opened.size() - 1);
                boolean isMethod = Pattern.compile("^ +(private |public |static )*[\\w\\[\\]]+ \\w+\\(.*").matcher(lines[from]).find();
                Due.is("sixty lines from " + lines[from].trim(), false, isMethod && i - from >= 60);
            }
            if (lines[i].trim().startsWith("}") && lines[i].endsWith("{") && opened.get(opened.size() - 1) == i) {
                opened.remove(opened.size() - 1);
                opened.set(opened.size() - 1, i);
            }
        }
    }
}
