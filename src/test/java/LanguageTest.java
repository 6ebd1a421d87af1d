import java.io.IOException;
import java.lang.reflect.Field;
import java.lang.reflect.Method;
import java.lang.reflect.Modifier;
import java.nio.file.Files;
import java.nio.file.Path;
import java.util.ArrayList;
import java.util.Arrays;
import java.util.List;
import java.util.Set;
import java.util.regex.Matcher;
import java.util.regex.Pattern;
import java.util.stream.Collectors;

/** What can be seen of ../shared/LANGUAGE.md in the class and in its text, by the numbers of its rules. */
public final class LanguageTest {
    private static final Path SOURCE = Path.of("src/main/java/LeafMatches.java");
    private static final Set<Class<?>> TYPES_OF_CONSTANTS = Set.of(int.class, long.class, boolean.class, char.class,
            String.class, int[].class, long[].class, char[].class, byte[].class);

    public static void main(String[] args) throws IOException {
        String code = withoutComments(Files.readString(SOURCE));
        List<Class<?>> all = new ArrayList<>(List.of(LeafMatches.class));
        all.addAll(Arrays.asList(LeafMatches.class.getDeclaredClasses()));
        rule1NoNameTwice(all);
        rule1And2ClassesInside(all);
        rule3And4WordsLeftOut(code);
        rule5StaticFields(all);
        rule6Exceptions(code);
        rule10NoTextsJoined(code);
        rule11Sizes(all, code);
        Check.done();
    }

    private static String withoutComments(String text) {
        return text.replaceAll("(?s)/\\*.*?\\*/", "").replaceAll("//[^\n]*", "");
    }

    private static void rule1NoNameTwice(List<Class<?>> all) {
        Set<String> open = Arrays.stream(LeafMatches.class.getMethods())
                .filter(m -> m.getDeclaringClass() == LeafMatches.class).map(Method::getName).collect(Collectors.toSet());
        for (Class<?> c : all) {
            for (Method m : c.getDeclaredMethods()) {
                boolean isOpen = c == LeafMatches.class && Modifier.isPublic(m.getModifiers());
                Check.is("rule 1: " + c.getName() + "." + m.getName(), isOpen || !open.contains(m.getName()), true);
            }
        }
    }

    private static void rule1And2ClassesInside(List<Class<?>> all) {
        for (Class<?> c : all.subList(1, all.size())) {
            int m = c.getModifiers();
            Check.is("rule 1: static " + c.getName(), Modifier.isStatic(m), true);
            Check.is("rule 1: open " + c.getName(), Modifier.isPublic(m) || Modifier.isProtected(m), false);
        }
    }

    private static void rule3And4WordsLeftOut(String code) {
        for (String word : List.of("import", "package", "synchronized", "assert", "finally", "try", "Object", "Map", "Set",
                "Thread", "Random", "native", "->", "::", "[][]", ".stream", ".format")) {
            boolean isWord = Character.isLetter(word.charAt(0));
            String pattern = isWord ? "\\b" + word + "\\b" : Pattern.quote(word);
            Check.is("rules 2 to 13: " + word, Pattern.compile(pattern).matcher(code).find(), false);
        }
    }

    private static void rule5StaticFields(List<Class<?>> all) {
        for (Class<?> c : all) {
            for (Field f : c.getDeclaredFields()) {
                if (Modifier.isStatic(f.getModifiers())) {
                    String what = "rule 5: " + c.getName() + "." + f.getName();
                    Check.is(what, Modifier.isFinal(f.getModifiers()), true);
                    Check.is(what + " of its type", TYPES_OF_CONSTANTS.contains(f.getType()), true);
                }
            }
        }
    }

    private static void rule6Exceptions(String code) {
        Pattern made = Pattern.compile(
                "throw new Illegal(State|Argument)Exception\\(\"[^\"]*\"\\);|throw new IndexOutOfBoundsException\\(\"[^\"]*\"\\);");
        Check.is("rule 6: each throw", count("\\bthrow\\b", code), (int) made.matcher(code).results().count());
        Check.is("rule 6: catch", count("\\bcatch\\b", code), 0);
    }

    private static void rule10NoTextsJoined(String code) {
        Check.is("rule 10: texts joined", count("\"\\s*\\+|\\+\\s*\"", code), 0);
    }

    private static void rule11Sizes(List<Class<?>> all, String code) {
        Check.is("rule 11: classes", all.size() <= 12, true);
        for (Class<?> c : all) {
            long fields = Arrays.stream(c.getDeclaredFields()).filter(f -> !Modifier.isStatic(f.getModifiers())).count();
            Check.is("rule 11: fields of " + c.getName(), fields <= 20, true);
            for (Method m : c.getDeclaredMethods()) {
                Check.is("rule 11: parameters of " + m.getName(), m.getParameterCount() <= 7, true);
            }
        }
        Matcher body = Pattern.compile("(?sm)^( +)[^\n;=]*\\) (?:throws [^\n]*)?\\{\n(.*?)^\\1\\}").matcher(code);
        while (body.find()) {
            String head = body.group().substring(0, body.group().indexOf('\n')).trim();
            Check.is("rule 11: lines of " + head, body.group(2).lines().count() <= 60, true);
        }
    }

    private static int count(String pattern, String code) {
        return (int) Pattern.compile(pattern).matcher(code).results().count();
    }
}
