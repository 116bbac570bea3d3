import java.lang.reflect.Method;
import java.lang.reflect.Modifier;
import java.nio.file.DirectoryStream;
import java.nio.file.Files;
import java.nio.file.Path;
import java.util.regex.Matcher;
import java.util.regex.Pattern;

/** README.md: its example answers what it says, and it names every call and every test. */
public final class ReadmeTest {
    private static final Pattern TYPED = Pattern.compile("for \\(char c : \"(.*)\"\\.toCharArray\\(\\)\\)");
    private static final Pattern CALL = Pattern.compile("patcher\\.(\\w+)\\(([^)]*)\\); *// (.*)");
    private static final Pattern TEXT_AFTER = Pattern.compile("the text is now \"(.*)\"");

    public static void main(String[] args) throws Exception {
        String readme = Files.readString(Path.of("README.md"));
        exampleAnswersWhatItSays(readme);
        everyCallIsNamed(readme);
        everyTestIsNamed(readme);
        Check.end();
    }

    private static void exampleAnswersWhatItSays(String readme) throws Exception {
        Matcher typed = TYPED.matcher(readme);
        Check.same("the example types a text", typed.find(), true);
        PathPatcher patcher = Check.typed(typed.group(1));
        Matcher call = CALL.matcher(readme);
        int calls = 0;
        while (call.find()) {
            compare(call.group(), answer(patcher, call.group(1), call.group(2)), call.group(3));
            calls++;
        }
        Check.same("calls of the example", calls, 6);
        Matcher after = TEXT_AFTER.matcher(readme);
        Check.same("the example shows a text", after.find(), true);
        Check.same("text after the example", Check.textOf(patcher), after.group(1));
    }

    /** A remark that begins with a number tells the answer; without one, the call is not refused. */
    private static void compare(String call, Object got, String remark) {
        if (Character.isDigit(remark.charAt(0))) {
            Check.same(call, (Integer) got, Integer.parseInt(remark.replaceAll("\\D.*", "")));
        } else if (got instanceof Integer number) {
            Check.same(call + " is not refused", number >= 0, true);
        } else {
            Check.same(call, (Boolean) got, true);
        }
    }

    private static Object answer(PathPatcher patcher, String name, String list) throws Exception {
        String[] words = list.isEmpty() ? new String[0] : list.split(", *");
        Object[] values = new Object[words.length];
        for (int i = 0; i < words.length; i++) {
            boolean isNumber = words[i].matches("-?\\d+");
            values[i] = isNumber ? (Object) Integer.valueOf(words[i]) : Boolean.valueOf(words[i]);
        }
        return named(name).invoke(patcher, values);
    }

    private static Method named(String name) {
        for (Method method : PathPatcher.class.getMethods()) {
            if (method.getName().equals(name)) {
                return method;
            }
        }
        throw new IllegalArgumentException("README.md calls " + name + ", which is not there");
    }

    private static void everyCallIsNamed(String readme) {
        for (Method method : PathPatcher.class.getDeclaredMethods()) {
            if (Modifier.isPublic(method.getModifiers())) {
                String row = "\n| `" + method.getName() + "(";
                Check.same(method.getName() + " has a row in README.md", readme.contains(row), true);
            }
        }
    }

    private static void everyTestIsNamed(String readme) throws Exception {
        try (DirectoryStream<Path> files = Files.newDirectoryStream(Path.of("src/test/java"), "*Test.java")) {
            for (Path file : files) {
                String name = file.getFileName().toString().replace(".java", "");
                Check.same(name + " in README.md", readme.contains("`" + name + "`"), true);
            }
        }
    }
}
