import java.lang.reflect.Method;
import java.lang.reflect.Modifier;
import java.nio.file.DirectoryStream;
import java.nio.file.Files;
import java.nio.file.Path;
import java.util.HashSet;
import java.util.Set;
import java.util.regex.Matcher;
import java.util.regex.Pattern;

/** README.md says how to use the class: its example answers what it says, and it names every call and every test. */
public final class ReadmeTest {
    private static final Pattern TEXT = Pattern.compile("for \\(char b : \"([^\"]*)\"\\.toCharArray\\(\\)\\) wall\\.type\\(([01]), b\\);.*");
    private static final Pattern CALL = Pattern.compile("wall\\.(\\w+)\\(([^)]*)\\);\\s*// (-?\\d+)\\b.*");
    private static int wrong = 0;

    public static void main(String[] args) throws Exception {
        String readme = Files.readString(Path.of("README.md"));
        followExample(readme);
        lookForCalls(readme);
        lookForTests(readme);
        if (wrong != 0) System.exit(1);
    }

    private static void say(String what) {
        wrong++;
        System.out.println(what);
    }

    private static void followExample(String readme) throws Exception {
        Matcher block = Pattern.compile("```java\n(.*?)```", Pattern.DOTALL).matcher(readme);
        if (!block.find()) {
            say("README.md has no example");
            return;
        }
        WallHands wall = new WallHands();
        int calls = 0;
        for (String line : block.group(1).split("\n")) {
            Matcher text = TEXT.matcher(line), call = CALL.matcher(line);
            if (text.matches()) {
                for (char b : text.group(1).toCharArray()) wall.type(Integer.parseInt(text.group(2)), b);
            } else if (call.matches()) {
                calls++;
                long got = answer(wall, call.group(1), call.group(2));
                if (got != Long.parseLong(call.group(3))) say("README.md: " + line + " but it answers " + got);
            } else if (!line.equals("WallHands wall = new WallHands();")) {
                say("README.md: not a call with its answer: " + line);
            }
        }
        if (calls == 0) say("README.md: its example makes no call");
    }

    private static long answer(WallHands wall, String name, String list) throws Exception {
        String[] parts = list.isEmpty() ? new String[0] : list.split(", ");
        Class<?>[] types = new Class<?>[parts.length];
        Object[] values = new Object[parts.length];
        for (int i = 0; i < parts.length; i++) {
            types[i] = int.class;
            values[i] = Integer.valueOf(parts[i]);
        }
        return ((Number) WallHands.class.getMethod(name, types).invoke(wall, values)).longValue();
    }

    /** Each call has a row of the table, with as many parameters as it takes. */
    private static void lookForCalls(String readme) {
        Set<String> rows = new HashSet<>();
        Matcher row = Pattern.compile("(?m)^\\| `(\\w+)\\(([^)]*)\\)` \\|").matcher(readme);
        while (row.find()) rows.add(row.group(1) + " " + (row.group(2).isEmpty() ? 0 : row.group(2).split(", ").length));
        for (Method method : WallHands.class.getDeclaredMethods()) {
            if (!Modifier.isPublic(method.getModifiers())) continue;
            String name = method.getName() + " " + method.getParameterCount();
            if (!rows.remove(name)) say("README.md has no row of " + name);
        }
        if (!rows.isEmpty()) say("README.md has rows of no call: " + rows);
    }

    private static void lookForTests(String readme) throws Exception {
        if (!readme.contains(".ci/run")) say("README.md does not say how to run the tests");
        try (DirectoryStream<Path> tests = Files.newDirectoryStream(Path.of("src/test/java"), "*Test.java")) {
            for (Path test : tests) {
                String name = test.getFileName().toString().replace(".java", "");
                if (!readme.contains("`" + name + "`")) say("README.md does not name " + name);
            }
        }
    }
}
