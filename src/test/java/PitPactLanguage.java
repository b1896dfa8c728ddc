import java.io.IOException;
import java.nio.file.Files;
import java.nio.file.Path;
import java.util.ArrayList;
import java.util.LinkedHashMap;
import java.util.List;
import java.util.Map;
import java.util.Set;
import java.util.TreeSet;
import java.util.regex.Matcher;
import java.util.regex.Pattern;

/** Rules 4, 8 and 11 of LANGUAGE.md: what is called in the source, by whom, and how deep. */
public final class PitPactLanguage {
    private static final Path SOURCE = Path.of("src/main/java/PitPact.java");
    private static final Pattern CLASS = Pattern.compile("^ {4}private static final class (\\w+) \\{$");
    private static final Pattern HEAD = Pattern.compile("^( +)((?:public|private)[^=;(]*?)(\\w+)\\([^)]*\\)\\s*\\{$");
    private static final Pattern CALL = Pattern.compile("(?:\\b(\\w+)\\.)?\\b(\\w+)\\s*\\(");
    private static final Pattern LIBRARY = Pattern.compile("\\b(Math|Integer|Long|System|Arrays|String|List)\\.(\\w+)");
    private static final Set<String> MAY_CALL = Set.of("Math.max", "Math.min", "Math.abs", "Integer.bitCount",
        "System.arraycopy");
    private static final Set<String> NO_CALLS = Set.of("if", "for", "while", "switch", "return");
    private static final int DEEPEST = 8;
    private static int wrong = 0;

    private static final class Member {
        final String where;
        final String words;
        final Set<String> calls = new TreeSet<>();

        Member(String where, String words) {
            this.where = where;
            this.words = words;
        }
    }

    /** By name alone: methods of one name count as one that calls what each of them calls. */
    private static final Map<String, List<Member>> members = new LinkedHashMap<>();

    private static void must(boolean holds, String what) {
        if (!holds) {
            wrong++;
            System.out.println("language: " + what);
        }
    }

    private static String withoutComments(String text) {
        return text.replaceAll("(?s)/\\*.*?\\*/", "").replaceAll("//[^\n]*", "");
    }

    private static void read(String[] lines) {
        String inside = "PitPact";
        for (int i = 0; i < lines.length; i++) {
            Matcher c = CLASS.matcher(lines[i]);
            inside = c.matches() ? c.group(1) : inside;
            Matcher m = HEAD.matcher(lines[i]);
            if (m.matches()) {
                Member member = new Member(inside + "." + m.group(3), m.group(2));
                for (i++; i < lines.length && !lines[i].equals(m.group(1) + "}"); i++) {
                    addCalls(member, lines[i]);
                }
                members.computeIfAbsent(m.group(3), name -> new ArrayList<>()).add(member);
            }
        }
    }

    private static void addCalls(Member member, String line) {
        Matcher m = CALL.matcher(line);
        while (m.find()) {
            if (!NO_CALLS.contains(m.group(2))) {
                boolean library = m.group(1) != null && MAY_CALL.contains(m.group(1) + "." + m.group(2));
                member.calls.add(library ? m.group(1) + "." + m.group(2) : m.group(2));
            }
        }
    }

    private static void libraryIsAsTold(String code) {
        Matcher m = LIBRARY.matcher(code);
        while (m.find()) {
            must(MAY_CALL.contains(m.group()), "rule 4: the source has " + m.group());
        }
    }

    private static void everyCallIsKnown() {
        for (List<Member> ofOneName : members.values()) {
            for (Member member : ofOneName) {
                for (String call : member.calls) {
                    must(MAY_CALL.contains(call) || members.containsKey(call) || isMadeByDefault(call),
                        "rule 4: " + member.where + " calls " + call);
                }
            }
        }
    }

    /** Classes inside without a constructor of their own. */
    private static boolean isMadeByDefault(String call) {
        for (Class<?> inside : PitPact.class.getDeclaredClasses()) {
            if (inside.getSimpleName().equals(call)) {
                return true;
            }
        }
        return false;
    }

    private static void selfCallsAreStatic() {
        for (Map.Entry<String, List<Member>> e : members.entrySet()) {
            for (Member member : e.getValue()) {
                must(!member.calls.contains(e.getKey()) || member.words.contains("private static"),
                    "rule 8: " + member.where + " calls itself, but is not private static");
            }
        }
    }

    /** How many calls stand open at once at most, the first and the library's counted; a call of itself is not. */
    private static int depth(String name, List<String> open) {
        if (open.contains(name)) {
            must(open.get(open.size() - 1).equals(name), "rule 8: " + open + " call one another");
            return 0;
        }
        open.add(name);
        int deepest = 0;
        for (Member member : members.getOrDefault(name, List.of())) {
            for (String call : member.calls) {
                deepest = Math.max(deepest, depth(call, open));
            }
        }
        open.remove(open.size() - 1);
        return deepest + 1;
    }

    public static void main(String[] args) throws IOException {
        String code = withoutComments(Files.readString(SOURCE));
        read(code.split("\n"));
        must(members.size() > 100, "only " + members.size() + " names were found in the source");
        libraryIsAsTold(code);
        everyCallIsKnown();
        selfCallsAreStatic();
        for (String name : members.keySet()) {
            int depth = depth(name, new ArrayList<>());
            must(depth <= DEEPEST, "rule 11: " + name + " goes " + depth + " deep");
        }
        System.out.println("language: " + members.size() + " names, " + wrong + " wrong");
        if (wrong != 0) {
            System.exit(1);
        }
    }
}
