import java.io.IOException;
import java.lang.reflect.Method;
import java.lang.reflect.Modifier;
import java.nio.file.Files;
import java.nio.file.Path;
import java.util.ArrayList;
import java.util.HashMap;
import java.util.List;
import java.util.Map;
import java.util.regex.Matcher;
import java.util.regex.Pattern;

/** README.md tells the truth: its example is called line by line, and every call of the face stands there. */
public final class PitPactReadme {
    private static final Pattern BLOCK = Pattern.compile("(?s)```java\n(.*?)```");
    private static final Pattern LINE = Pattern.compile(
        "(?:int (\\w+) = )?pact\\.(\\w+)\\((.*)\\);\\s*// (-?\\d+)(?::.*)?");
    private static final Pattern NUMBER = Pattern.compile("int (\\w+) = (-?\\d+);");
    private static final Map<String, Integer> names = new HashMap<>();
    private static PitPact pact;
    private static int wrong = 0;
    private static int looked = 0;

    private static void must(boolean holds, String what) {
        if (!holds) {
            wrong++;
            System.out.println("readme: " + what);
        }
    }

    private static void follow(String line) throws ReflectiveOperationException {
        Matcher number = NUMBER.matcher(line);
        Matcher call = LINE.matcher(line);
        if (line.equals("PitPact pact = new PitPact();")) {
            pact = new PitPact();
        } else if (number.matches()) {
            names.put(number.group(1), Integer.parseInt(number.group(2)));
        } else if (pact != null && call.matches()) {
            looked++;
            int answer = answerTo(call.group(2), call.group(3));
            must(answer == Integer.parseInt(call.group(4)), line + " answered " + answer);
            if (call.group(1) != null) {
                names.put(call.group(1), answer);
            }
        } else {
            must(false, "can not follow: " + line);
        }
    }

    private static int answerTo(String name, String arguments) throws ReflectiveOperationException {
        List<Object> values = new ArrayList<>();
        for (String a : arguments.isEmpty() ? new String[0] : arguments.split(", ")) {
            values.add(valueOf(a));
        }
        for (Method m : PitPact.class.getMethods()) {
            if (m.getName().equals(name) && m.getParameterCount() == values.size()) {
                return (int) m.invoke(pact, values.toArray());
            }
        }
        must(false, "there is no call " + name + " of " + values.size());
        return 0;
    }

    private static Object valueOf(String argument) {
        if (argument.equals("true") || argument.equals("false")) {
            return Boolean.valueOf(argument);
        }
        if (argument.matches("'.'")) {
            return (int) argument.charAt(1);
        }
        if (argument.matches("-?\\d+")) {
            return Integer.valueOf(argument);
        }
        must(names.containsKey(argument), "nobody said what " + argument + " is");
        return names.getOrDefault(argument, 0);
    }

    private static void everyCallStandsThere(String text) {
        for (Method m : PitPact.class.getDeclaredMethods()) {
            if (Modifier.isPublic(m.getModifiers())) {
                must(text.contains("`" + m.getName() + "()`"), m.getName() + "() is not on the page");
            }
        }
    }

    private static void everyTestStandsThere(String text) throws IOException {
        try (var files = Files.list(Path.of("src/test/java"))) {
            files.forEach(f -> must(text.contains("`" + f.getFileName().toString().replace(".java", "") + "`"),
                f + " is not on the page"));
        }
    }

    public static void main(String[] args) throws IOException, ReflectiveOperationException {
        String text = Files.readString(Path.of("README.md"));
        Matcher block = BLOCK.matcher(text);
        must(block.find(), "there is no example");
        for (String line : block.group(1).split("\n")) {
            follow(line.trim());
        }
        must(looked > 20, "only " + looked + " calls were looked at");
        everyCallStandsThere(text);
        everyTestStandsThere(text);
        System.out.println("readme: " + looked + " calls followed, " + wrong + " wrong");
        if (wrong != 0) {
            System.exit(1);
        }
    }
}
