import java.io.IOException;
import java.nio.file.Files;
import java.nio.file.Path;
import java.util.Map;
import java.util.Set;
import java.util.TreeMap;
import java.util.TreeSet;
import java.util.regex.Matcher;
import java.util.regex.Pattern;

/** The rules of LANGUAGE.md that can be seen from the source; FaceTest has those that can be seen from the class. */
public final class LanguageTest {
    private static final Path SOURCE = Path.of("src/main/java/PixelPipe.java");
    private static final Pattern NOT_IN_THE_LANGUAGE = Pattern.compile(
            "\\b(package|import|class|interface|enum|record|float|double|var|null|throw|throws|try|catch|finally"
            + "|synchronized|assert|instanceof|String|Object|Math|Integer|Long|System|Arrays|toString|equals|hashCode"
            + "|length|native|volatile|transient)\\b|->|::|\"|\\bstatic \\{");
    private static final Pattern METHOD = Pattern.compile(
            "^    (?:public|private) (?:static )?(?:(?:int|long|boolean|void) )?(\\w+)\\(.*?^    }$",
            Pattern.MULTILINE | Pattern.DOTALL);
    private static final Pattern NAME_BEFORE_BRACKET = Pattern.compile("(\\w+)\\(");
    private static final Pattern MADE = Pattern.compile("\\bnew\\b");
    private static final Pattern MADE_IN_A_FIELD = Pattern.compile(
            "^    private final int\\[\\] \\w+ = new int\\[[A-Z_]+\\];$", Pattern.MULTILINE);
    private static final int LONGEST_METHOD = 60;
    private static final int DEEPEST_CALL = 6;

    private static final Checks checks = new Checks();
    private static final Map<String, String> methods = new TreeMap<>();
    private static final Map<String, Integer> depths = new TreeMap<>();

    public static void main(String[] args) throws IOException {
        String source = withoutComments(Files.readString(SOURCE));
        Matcher method = METHOD.matcher(source);
        while (method.find()) {
            methods.put(method.group(1), method.group());
        }
        // A method that the pattern doesn't find would not be looked at.
        checks.due("methods and constructor found", methods.size(), PixelPipe.class.getDeclaredMethods().length + 1);
        words(source);
        arrays(source);
        for (String name : methods.keySet()) {
            long lines = methods.get(name).lines().count();
            checks.due(name + " has few lines (" + lines + ")", lines <= LONGEST_METHOD, true);
            int depth = depthOf(name, new TreeSet<>());
            checks.due(name + " calls at most six deep (" + depth + ")", depth <= DEEPEST_CALL, true);
            callsInArguments(name);
        }
        checks.end();
    }

    private static String withoutComments(String text) {
        return text.replaceAll("(?s)/\\*.*?\\*/", "").replaceAll("//[^\n]*", "");
    }

    private static void words(String source) {
        String inside = source.replace("public final class PixelPipe {", "");
        Matcher word = NOT_IN_THE_LANGUAGE.matcher(inside);
        while (word.find()) {
            checks.due("a word outside of the language: " + word.group(), true, false);
        }
    }

    private static void arrays(String source) {
        checks.due("what is made is an array of a field", MADE.matcher(source).results().count(),
                MADE_IN_A_FIELD.matcher(source).results().count());
    }

    private static Set<String> calledIn(String text) {
        Set<String> called = new TreeSet<>();
        Matcher name = NAME_BEFORE_BRACKET.matcher(text);
        while (name.find()) {
            if (methods.containsKey(name.group(1))) {
                called.add(name.group(1));
            }
        }
        return called;
    }

    private static String bodyOf(String name) {
        String method = methods.get(name);
        return method.substring(method.indexOf('{'));
    }

    private static int depthOf(String name, Set<String> callers) {
        if (!callers.add(name)) {
            checks.due("recursion: " + callers, true, false);
            return 0;
        }
        int deepest = 0;
        for (String called : calledIn(bodyOf(name))) {
            if (!depths.containsKey(called)) {
                depthOf(called, callers);
            }
            deepest = Math.max(deepest, depths.getOrDefault(called, 0));
        }
        callers.remove(name);
        depths.put(name, deepest + 1);
        return deepest + 1;
    }

    private static void callsInArguments(String name) {
        String body = bodyOf(name);
        Matcher call = NAME_BEFORE_BRACKET.matcher(body);
        while (call.find()) {
            if (methods.containsKey(call.group(1))) {
                String arguments = body.substring(call.end(), closing(body, call.end()));
                checks.due(name + ": no call in the arguments of " + call.group(1), calledIn(arguments).isEmpty(), true);
            }
        }
    }

    /** Where the bracket ends that was opened just before. */
    private static int closing(String text, int from) {
        int open = 1;
        int i = from;
        while (open > 0) {
            char c = text.charAt(i);
            open += c == '(' ? 1 : c == ')' ? -1 : 0;
            i++;
        }
        return i - 1;
    }
}
