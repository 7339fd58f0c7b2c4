import java.io.IOException;
import java.lang.reflect.Field;
import java.lang.reflect.Member;
import java.lang.reflect.Method;
import java.lang.reflect.Modifier;
import java.nio.file.Files;
import java.nio.file.Path;
import java.util.ArrayList;
import java.util.Arrays;
import java.util.List;
import java.util.Set;
import java.util.TreeSet;
import java.util.regex.Matcher;
import java.util.regex.Pattern;

/** What of ../shared/LANGUAGE.md can be read off the class and its text. Run in the project's folder. */
public final class LanguageTest {
    private static final String[] FACE = {
        "row", "set", "copy", "drop", "feed", "house", "fault", "undo", "buy", "back", "curtain", "write",
        "visitor", "seat", "price", "looked", "seen", "known", "canBe", "suspects", "settled", "cheapest",
        "nextSeat", "followed", "crowd", "told", "believed", "account", "met", "soldOut", "haunted", "image",
        "restore", "kind", "as", "ask", "trace", "count", "status"};
    private static final String[] BANNED = {
        "throw", "throws", "try", "catch", "finally", "synchronized", "assert", "import static", "::", "->", "var",
        "volatile", "native", "Object", "Exception", "Error", "Thread", "System.out", "System.in", "Random",
        "hashCode", "toString\\(\\) \\{", "HashMap", "Map", "Set", "\\w+Exact", "@\\w+", "package", "protected"};

    public static void main(String[] args) throws IOException {
        face();
        classesInside();
        text();
        Check.end();
    }

    private static void face() {
        Set<String> due = new TreeSet<>(Arrays.asList(FACE));
        for (Method m : SeenAgain.class.getDeclaredMethods()) {
            boolean open = !Modifier.isPrivate(m.getModifiers()) && !m.isSynthetic();
            boolean ofFace = Modifier.isPublic(m.getModifiers()) && !Modifier.isStatic(m.getModifiers());
            Check.due("rule 1: " + m, open && !(ofFace && due.remove(m.getName())) ? 1 : 0, 0);
            Check.due("rule 1, name: " + m, !open && Arrays.asList(FACE).contains(m.getName()) ? 1 : 0, 0);
        }
        Check.due("rule 1: missing " + due, due.size(), 0);
        Set<String> constants = new TreeSet<>(List.of("NONE", "BAD", "STATE", "FULL"));
        for (Field f : SeenAgain.class.getDeclaredFields()) {
            boolean open = !Modifier.isPrivate(f.getModifiers()) && !f.isSynthetic();
            Check.due("rule 1: " + f, open && !constants.remove(f.getName()) ? 1 : 0, 0);
        }
        Check.due("rule 1: missing " + constants, constants.size(), 0);
        int modifiers = SeenAgain.class.getModifiers();
        Check.due("rule 1: public final", modifiers, Modifier.PUBLIC | Modifier.FINAL);
    }

    private static void classesInside() {
        List<Class<?>> all = new ArrayList<>(Arrays.asList(SeenAgain.class.getDeclaredClasses()));
        Check.due("rule 11: " + all.size() + " classes inside", all.size() <= 12 ? 1 : 0, 1);
        for (Class<?> one : all) {
            Check.due("rule 2: " + one, Modifier.isStatic(one.getModifiers()) ? 1 : 0, 1);
            Check.due("rule 2: classes in " + one, one.getDeclaredClasses().length, 0);
            List<Member> members = new ArrayList<>(Arrays.asList(one.getDeclaredMethods()));
            for (Member m : members) {
                Check.due("rule 1, name: " + m, Arrays.asList(FACE).contains(m.getName()) ? 1 : 0, 0);
            }
        }
        all.add(SeenAgain.class);
        for (Class<?> one : all) {
            int fields = 0;
            for (Field f : one.getDeclaredFields()) {
                boolean still = Modifier.isStatic(f.getModifiers());
                Check.due("rule 5: " + f, still && !Modifier.isFinal(f.getModifiers()) ? 1 : 0, 0);
                fields += still ? 0 : 1;
            }
            Check.due("rule 11: fields of " + one, fields <= 20 ? 1 : 0, 1);
            for (Method m : one.getDeclaredMethods()) {
                Check.due("rule 11: " + m, m.getParameterCount() <= 7 ? 1 : 0, 1);
            }
        }
    }

    private static void text() throws IOException {
        String text = Files.readString(Path.of("src/main/java/SeenAgain.java"));
        String code = text.replaceAll("(?s)/\\*.*?\\*/", "").replaceAll("//[^\n]*", "");
        for (String word : BANNED) {
            String edge = word.matches("\\w.*\\w") ? "\\b" : "";
            Matcher m = Pattern.compile(edge + word + edge).matcher(code);
            Check.due("rules 2, 4, 6: " + word, m.find() ? 1 : 0, 0);
        }
        Check.due("rule 10: no text is joined by +", code.contains("\"") ? 1 : 0, 0);
        Matcher imports = Pattern.compile("import ([^;]*);").matcher(code);
        while (imports.find()) {
            Check.due("rule 4: " + imports.group(1), imports.group(1).equals("java.util.Arrays") ? 1 : 0, 1);
        }
        Check.due("signs 1 to 127", text.chars().allMatch(c -> c < 128) ? 1 : 0, 1);
        String[] lines = text.split("\n");
        for (int i = 0; i < lines.length; i++) {
            if (lines[i].matches("( {4}| {8})[^ }/*].*\\) \\{")) {
                String end = lines[i].replaceAll("\\S.*", "}");
                int length = Arrays.asList(lines).subList(i, lines.length).indexOf(end);
                Check.due("rule 11: a long method in line " + (i + 1), length > 0 && length <= 60 ? 1 : 0, 1);
            }
        }
    }
}
