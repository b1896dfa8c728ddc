import java.io.IOException;
import java.lang.reflect.Constructor;
import java.lang.reflect.Field;
import java.lang.reflect.Method;
import java.lang.reflect.Modifier;
import java.nio.file.Files;
import java.nio.file.Path;
import java.util.ArrayList;
import java.util.Arrays;
import java.util.List;
import java.util.Set;
import java.util.TreeSet;
import java.util.regex.Matcher;
import java.util.regex.Pattern;

/** The public face of the document, and the rules of LANGUAGE.md that can be seen without running the class. */
public final class PitPactFace {
    private static final Path SOURCE = Path.of("src/main/java/PitPact.java");
    private static int wrong = 0;

    private static final String[] METHODS = {
        "town(int,int,int)", "pit(int,int,int,int,int)", "about(int,int)", "man(int,int,int,int,int,boolean)",
        "ofMan(int,int)", "leave(int)", "posts(int,int,int)", "set(int,int)", "year()", "say(int)", "wipe()",
        "fault()", "rule(int)", "worth(int,int)", "move(int,int)", "close(int)", "inflow(int,int)",
        "pump(int,boolean)", "way(int,int,int)", "months(int)", "threat(int,int)", "price(int,int,int)",
        "plan(int,int)", "best(int)", "vote(int,int)", "worked(int,int,int)", "harm(int,int,int,int)", "whose(int)",
        "part(int,int)", "work(int,int)", "lone()", "told(int)"};
    private static final String[] CONSTANTS = {"UNKNOWN", "OUTSIDE", "STATE", "FULL", "NO", "NONE"};

    private static void must(boolean holds, String what) {
        if (!holds) {
            wrong++;
            System.out.println("face: " + what);
        }
    }

    private static String signature(Method m) {
        List<String> types = new ArrayList<>();
        for (Class<?> type : m.getParameterTypes()) {
            types.add(type.getName());
        }
        return m.getName() + "(" + String.join(",", types) + ")";
    }

    private static void face() throws ReflectiveOperationException {
        Set<String> shown = new TreeSet<>();
        for (Method m : PitPact.class.getDeclaredMethods()) {
            if (!Modifier.isPrivate(m.getModifiers())) {
                must(Modifier.isPublic(m.getModifiers()), m + " is neither public nor private");
                must(m.getReturnType() == int.class && !Modifier.isStatic(m.getModifiers()), m + " is not as told");
                shown.add(signature(m));
            }
        }
        must(shown.equals(new TreeSet<>(Arrays.asList(METHODS))), "methods are " + shown);
        must(Modifier.isFinal(PitPact.class.getModifiers()), "the class is not final");
        Constructor<?>[] made = PitPact.class.getDeclaredConstructors();
        must(made.length == 1 && Modifier.isPublic(made[0].getModifiers()), "constructors are not as told");
        must(made[0].getParameterCount() == 0, "the constructor takes something");
        Set<String> constants = new TreeSet<>();
        for (Field f : PitPact.class.getDeclaredFields()) {
            if (!Modifier.isPrivate(f.getModifiers())) {
                constants.add(f.getName());
            }
        }
        must(constants.equals(new TreeSet<>(Arrays.asList(CONSTANTS))), "constants are " + constants);
        for (int i = 0; i < CONSTANTS.length; i++) {
            must(PitPact.class.getField(CONSTANTS[i]).getInt(null) == -1 - i, CONSTANTS[i] + " is another number");
        }
    }

    private static void classesInside() {
        Set<String> names = new TreeSet<>();
        for (String m : METHODS) {
            names.add(m.substring(0, m.indexOf('(')));
        }
        must(PitPact.class.getDeclaredClasses().length <= 12, "more than twelve classes inside");
        checkMembers(PitPact.class, names);
        for (Class<?> inside : PitPact.class.getDeclaredClasses()) {
            must(Modifier.isStatic(inside.getModifiers()), inside + " is not static");
            must(!Modifier.isPublic(inside.getModifiers()), inside + " is public");
            checkMembers(inside, names);
        }
    }

    private static void checkMembers(Class<?> c, Set<String> publicNames) {
        int fields = 0;
        for (Field f : c.getDeclaredFields()) {
            if (Modifier.isStatic(f.getModifiers())) {
                must(Modifier.isFinal(f.getModifiers()), f + " is static, not final");
            } else {
                fields++;
            }
        }
        must(fields <= 20, c + " has " + fields + " fields");
        for (Method m : c.getDeclaredMethods()) {
            must(m.getParameterCount() <= 7, m + " takes more than seven");
            boolean shown = c == PitPact.class && Modifier.isPublic(m.getModifiers());
            must(shown || !publicNames.contains(m.getName()), m + " bears the name of a public one");
        }
    }

    private static void source() throws IOException {
        String text = Files.readString(SOURCE);
        String code = text.replaceAll("(?s)/\\*.*?\\*/", "").replaceAll("//[^\n]*", "");
        String[] barred = {"\\bthrow\\b", "\\bthrows\\b", "\\btry\\b", "\\bcatch\\b", "\\bsynchronized\\b",
            "\\bassert\\b", "\\bpackage\\b", "\\bimport\\b", "->", "::", "Exact\\b", "\\bwhile\\s*\\(\\s*true",
            "\\bnew\\s+\\w+\\s*\\([^)]*\\)\\s*\\{", "\\bhashCode\\b", "\\btoString\\b", "\\bObject\\b"};
        for (String b : barred) {
            must(!Pattern.compile(b).matcher(code).find(), "the source has " + b);
        }
        must(code.chars().allMatch(c -> c < 128), "the source has signs above 127");
        methodsAreShort(text.split("\n"));
    }

    /** A method's head ends with an open brace, and its end stands as far in as its head. */
    private static void methodsAreShort(String[] lines) {
        Pattern head = Pattern.compile("^( +)(public|private)[^=;]*\\)\\s*\\{$");
        for (int i = 0; i < lines.length; i++) {
            Matcher m = head.matcher(lines[i]);
            if (m.matches()) {
                int end = i;
                while (end < lines.length && !lines[end].equals(m.group(1) + "}")) {
                    end++;
                }
                must(end - i < 60, "line " + (i + 1) + " begins a method of " + (end - i) + " lines");
            }
        }
    }

    public static void main(String[] args) throws IOException, ReflectiveOperationException {
        face();
        classesInside();
        source();
        System.out.println("face: " + wrong + " wrong");
        if (wrong != 0) {
            System.exit(1);
        }
    }
}
