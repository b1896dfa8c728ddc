import java.lang.reflect.InvocationTargetException;
import java.lang.reflect.Method;
import java.lang.reflect.Modifier;
import java.util.ArrayList;
import java.util.HashMap;
import java.util.List;
import java.util.Map;

/**
 * Each sentence of the document that names a boundary case, with runs of calls of its own.
 *
 * A row of a run is a call by its name and numbers, and what is due behind it:
 * <pre>
 *   town 0 9 9 = 1           this answer is due
 *   town 6 9 9 ! UNKNOWN     it is refused so, and changes nothing: two objects with the same rows behind them,
 *                            of which one was asked this too, answer alike then
 *   town 0 9 9               whatever it answers
 *   8 x pit 0 0 0 0 1 =+ 0   eight times, and the answer that is due rises by 1 each time
 *   text ay+                 each sign is said
 *   ---                      a new object; rows may also stand behind one another, with "; " between them
 * </pre>
 */
public final class PitPactBounds {
    private static final int MOST_CALLS = 512;
    private static final Map<String, Method> METHODS = new HashMap<>();
    private static final Map<String, Integer> NAMED = Map.of("UNKNOWN", -1, "OUTSIDE", -2, "STATE", -3, "FULL", -4,
        "NO", -5, "NONE", -6, "MIN", Integer.MIN_VALUE, "MAX", Integer.MAX_VALUE);
    private static int asked = 0;
    private static int wrong = 0;
    private static int sentences = 0;
    private static String sentence = "";

    static {
        for (Method m : PitPact.class.getDeclaredMethods()) {
            if (Modifier.isPublic(m.getModifiers())) {
                METHODS.put(m.getName(), m);
            }
        }
    }

    // ---- rows

    private static final class Row {
        final String call;
        final String mark;
        final int due;

        Row(String call, String mark, int due) {
            this.call = call;
            this.mark = mark;
            this.due = due;
        }

        boolean isRefused() {
            return mark.equals("!");
        }
    }

    /** An object of the class, asked by rows; what it answers behind its 512th call is free, so that is not asked. */
    private static final class Asked {
        private final PitPact pact = new PitPact();
        private int calls = 0;

        int ask(String call) {
            String[] words = call.split(" ");
            Method method = METHODS.get(words[0]);
            if (++calls > MOST_CALLS) {
                throw new IllegalStateException("a test asks one object more than 512 times: " + sentence);
            }
            try {
                return (int) method.invoke(pact, numbersOf(method, words));
            } catch (InvocationTargetException e) {
                throw new IllegalStateException(call + " throws", e.getCause());
            } catch (IllegalAccessException e) {
                throw new IllegalStateException(e);
            }
        }

        private static Object[] numbersOf(Method method, String[] words) {
            Class<?>[] types = method.getParameterTypes();
            if (types.length != words.length - 1) {
                throw new IllegalStateException("a row with other numbers: " + String.join(" ", words));
            }
            Object[] numbers = new Object[types.length];
            for (int i = 0; i < types.length; i++) {
                String word = words[i + 1];
                if (types[i] == boolean.class) {
                    numbers[i] = Boolean.valueOf(word);
                } else {
                    numbers[i] = numberOf(word);
                }
            }
            return numbers;
        }
    }

    private static int numberOf(String word) {
        return NAMED.containsKey(word) ? NAMED.get(word) : Integer.parseInt(word);
    }

    private static List<Row> rowsOf(String run) {
        List<Row> rows = new ArrayList<>();
        for (String line : run.split("\n|; ")) {
            String text = line.strip();
            if (text.startsWith("text ")) {
                for (char sign : text.substring(5).toCharArray()) {
                    rows.add(new Row("say " + (int) sign, "", 0));
                }
            } else if (!text.isEmpty()) {
                addRows(rows, text.split(" +"));
            }
        }
        return rows;
    }

    private static void addRows(List<Row> rows, String[] words) {
        int first = words.length > 1 && words[1].equals("x") ? 2 : 0;
        int times = first == 0 ? 1 : numberOf(words[0]);
        int end = words.length;
        String mark = "";
        int due = 0;
        if (words.length > 2 && List.of("=", "=+", "!").contains(words[words.length - 2])) {
            end = words.length - 2;
            mark = words[end];
            due = numberOf(words[end + 1]);
        }
        StringBuilder call = new StringBuilder(words[first]);
        for (int i = first + 1; i < end; i++) {
            call.append(' ').append(words[i]);
        }
        for (int i = 0; i < times; i++) {
            rows.add(new Row(call.toString(), mark, mark.equals("=+") ? due + i : due));
        }
    }

    // ---- runs

    private static void on(String words) {
        sentence = words;
        sentences++;
    }

    private static void on(String words, String runs) {
        on(words);
        runs(runs);
    }

    private static void runs(String runs) {
        for (String run : runs.split("(?m)^ *---$")) {
            List<Row> rows = rowsOf(run);
            Asked x = new Asked();
            for (int i = 0; i < rows.size(); i++) {
                Row row = rows.get(i);
                int got = x.ask(row.call);
                if (!row.mark.isEmpty()) {
                    due(row.call, got, row.due);
                }
                if (row.isRefused()) {
                    changesNothing(rows.subList(0, i), row);
                }
            }
        }
    }

    private static void due(String call, int got, int want) {
        asked++;
        if (got != want) {
            wrong++;
            System.out.println("\"" + sentence + "\": " + call + " answered " + got + ", due is " + want);
        }
    }

    private static void changesNothing(List<Row> ahead, Row refused) {
        Asked with = behind(ahead);
        with.ask(refused.call);
        Asked without = behind(ahead);
        List<String> got = allSeen(with);
        List<String> want = allSeen(without);
        asked++;
        for (int i = 0; i < want.size(); i++) {
            if (!got.get(i).equals(want.get(i))) {
                wrong++;
                System.out.println("\"" + sentence + "\": " + refused.call + " is refused and changes something: "
                    + got.get(i) + ", due is " + want.get(i));
                return;
            }
        }
    }

    private static Asked behind(List<Row> ahead) {
        Asked x = new Asked();
        for (Row row : ahead) {
            if (!row.isRefused()) {
                x.ask(row.call);
            }
        }
        return x;
    }

    /** All that can be seen of an object; the last calls change it, to show what no call tells. */
    private static List<String> allSeen(Asked x) {
        List<String> seen = new ArrayList<>();
        for (int what = 0; what <= 26; what++) {
            see(seen, x, "told " + what);
        }
        see(seen, x, "fault");
        see(seen, x, "lone");
        int pits = x.ask("told 0");
        for (int p = 0; p < pits; p++) {
            for (int what = 0; what <= 12; what++) {
                see(seen, x, "about " + p + " " + what);
            }
            see(seen, x, "threat " + p + " " + p);
        }
        int men = x.ask("told 1");
        for (int m = 0; m < men; m++) {
            for (int what = 0; what <= 6; what++) {
                see(seen, x, "ofMan " + m + " " + what);
            }
        }
        for (int r = 0; r < 3; r++) {
            see(seen, x, "worth " + r + " 0");
        }
        for (int h = 0; h < x.ask("told 4"); h++) {
            see(seen, x, "whose " + h);
        }
        seeByChanges(seen, x, pits);
        return seen;
    }

    private static void seeByChanges(List<String> seen, Asked x, int pits) {
        see(seen, x, "rule 2");
        see(seen, x, "worth 2 0");
        x.ask("wipe");
        x.ask("say 102");
        x.ask("rule 2");
        for (int town = 0; town < 6; town++) {
            int m = x.ask("man 20 0 0 " + town + " 0 false");
            see(seen, x, "worth 2 " + m);
        }
        see(seen, x, "months 2");
        for (int p = 0; p < pits; p++) {
            see(seen, x, "about " + p + " 7");
            see(seen, x, "inflow " + p + " 0");
        }
        for (int row = 0; row < 3; row++) {
            for (int year = 0; year < 5; year++) {
                see(seen, x, "price " + row + " " + year + " 0");
            }
        }
    }

    private static void see(List<String> seen, Asked x, String call) {
        seen.add(call + " answers " + x.ask(call));
    }

    // ---- terms

    private static final String MUCH_OF_ALL = """
        town 0 3 4; town 1 90 80; pit 1 2 300 120 300; pit 40 10 200 90 500; pit 60 10 50 150 200
        pit 99 99 10 10 10; posts 1 0 2; posts 2 1 1; man 55 0 30 0 0 true; man 30 1 10 1 0 true
        man 40 1 20 1 1 false; man 25 2 2 0 3 false; man 66 2 2 2 1 false; man 50 0 2 5 3 true
        man 33 2 2 4 2 false; text k; rule 0; text a40,>; rule 1; text ty+; rule 2; close 3; leave 6; year
        text a1; inflow 0 40; inflow 1 7; pump 0 false; way 0 1 20; way 1 2 0; months 2; harm 1 2 50 1000
        harm 40 11 99 999; worked 1 89 99; price 1 1 60; set 1 20; set 2 100; set 3 90; set 4 2; set 5 4
        set 6 10
        """;

    private static void terms() {
        theFirstThatFits();
        refusedChangeNothing();
        numbersFarOutside();
        quotientsAreCut();
        fiveHundredTwelveCalls();
    }

    private static void theFirstThatFits() {
        on("Calls that are refused answer, the first of these that fits", """
            town 6 100 100 ! UNKNOWN; town 5 100 100 ! OUTSIDE
            ---
            8 x pit 0 0 0 0 1
            pit 0 0 0 0 0 ! OUTSIDE; pit 100 0 0 0 1 ! OUTSIDE; pit 0 0 0 0 1 ! FULL
            ---
            about 0 13 ! UNKNOWN
            pit 0 0 0 0 1
            about 0 13 ! OUTSIDE
            ---
            ofMan 0 7 ! UNKNOWN
            pit 0 0 0 0 1; man 20 0 0 0 0 false
            ofMan 0 7 ! OUTSIDE
            ---
            pit 0 0 0 0 1; close 0
            posts 1 3 10 ! UNKNOWN; posts 0 3 0 ! OUTSIDE; posts 0 0 10 ! OUTSIDE; posts 0 0 0 ! STATE
            ---
            40 x say 97
            say 127 ! OUTSIDE; say 97 ! FULL
            ---
            rule 3 ! OUTSIDE; rule 2 ! NO
            ---
            pit 0 0 0 0 1; close 0
            vote 1 2 ! UNKNOWN; vote 0 2 ! OUTSIDE; vote 0 1 ! STATE
            ---
            worked 0 5 4 ! UNKNOWN
            pit 0 0 0 0 1
            worked 0 5 4 ! OUTSIDE
            ---
            10 x harm 0 0 0 0
            harm 0 0 0 100001 ! OUTSIDE; harm 100 0 0 0 ! OUTSIDE; harm 0 0 0 0 ! FULL
            ---
            work 6 3 ! UNKNOWN; work 5 3 ! OUTSIDE
            """);
        runs("""
            worth 3 0 ! -2000001; worth 0 0 ! -2000001
            pit 0 0 0 0 1; man 20 0 0 0 0 false
            worth 3 0 ! -2000002; worth 0 0 ! -2000006
            ---
            pit 0 0 0 0 1; pit 0 0 0 0 1; pit 0 0 0 0 1; close 1; 10 x man 20 0 0 0 0 false
            man 20 0 0 0 2 false
            move 3 -1 ! UNKNOWN; move 1 -5 ! UNKNOWN; move 1 0 ! UNKNOWN; move 1 -1 ! STATE; move 0 -5 ! UNKNOWN
            move 0 10 ! UNKNOWN; move 0 11 ! UNKNOWN; move 0 0 ! NO
            close 3 ! UNKNOWN; close 1 ! STATE; close 0 ! NO
            ---
            inflow 0 101 ! UNKNOWN
            pit 0 0 0 0 1
            inflow 0 101 ! OUTSIDE
            ---
            pit 0 0 0 0 1; pit 0 0 0 0 1; 12 x way 0 1 0
            way 1 1 1001 ! UNKNOWN; way 1 2 1001 ! UNKNOWN; way 1 1 0 ! UNKNOWN; way 1 0 1001 ! OUTSIDE
            way 1 0 0 ! FULL
            ---
            price 3 0 201 ! UNKNOWN; price 0 5 201 ! UNKNOWN; price 0 0 201 ! OUTSIDE
            ---
            set 3 1
            best 2 ! OUTSIDE; best 1 ! NO
            """);
        on("STATE is looked at ahead of FULL.", """
            pit 0 0 0 0 1; pit 0 0 0 0 1; close 1; 24 x man 20 0 0 0 0 false
            man 13 0 0 6 1 false ! UNKNOWN; man 13 0 0 0 2 false ! UNKNOWN; man 13 0 0 0 1 false ! OUTSIDE
            man 20 0 0 0 1 false ! STATE; man 13 0 0 0 0 false ! OUTSIDE; man 20 0 0 0 0 false ! FULL
            """);
    }

    private static void refusedChangeNothing() {
        on("They change nothing.");
        for (String call : List.of("town 6 1 1", "town -1 1 1", "about 4 0", "man 20 0 0 6 0 false",
                "man 20 0 0 0 4 false", "ofMan 7 0", "leave 7", "leave -1", "posts 4 0 1", "move 4 -1", "move 0 2",
                "move 0 7", "move 0 -5", "move 3 3", "close 4", "close -1", "inflow 4 1", "pump 4 false",
                "pump -1 false", "way 0 4 1", "way 1 1 1", "threat 4 0", "threat 0 4", "price 3 0 1", "price 0 5 1",
                "vote 4 0", "worked 4 0 1", "whose 2", "part 2 0", "part 0 4", "work 6 0")) {
            runs(MUCH_OF_ALL + call + " ! UNKNOWN");
        }
        for (String call : List.of("town 0 100 1", "town 1 1 100", "town 0 -1 5", "pit 100 1 1 1 1", "pit 1 1 1 1 0",
                "about 0 13", "man 13 0 0 0 0 false", "man 20 3 0 0 0 false", "man 20 0 51 0 0 false", "ofMan 0 7",
                "posts 1 0 10", "posts 1 3 1", "posts 3 0 10", "set 0 71", "set 1 201", "set 2 10001", "set 3 5001",
                "set 4 0", "set 5 6", "set 6 51", "set 7 1", "say 32", "say 127", "rule 3", "rule -1", "inflow 0 101",
                "way 0 1 1001", "months 0", "months 241", "price 1 1 201", "price 1 1 -1", "plan 5555 0", "plan 6 0",
                "plan 0 3", "best 2", "vote 0 2", "worked 1 61 60", "worked 1 0 100", "harm 1 2 100 1", "work 0 3",
                "told 9")) {
            runs(MUCH_OF_ALL + call + " ! OUTSIDE");
        }
        for (String call : List.of("man 20 0 0 0 3 false", "posts 3 0 1", "move 3 -1", "close 3", "vote 3 0")) {
            runs(MUCH_OF_ALL + call + " ! STATE");
        }
        for (String call : List.of("leave 6", "rule 0", "rule 2")) {
            runs(MUCH_OF_ALL + call + " ! NO");
        }
        for (String call : List.of("best 0", "best 1")) {
            runs(MUCH_OF_ALL + "set 3 5000\n" + call + " ! NO");
        }
        for (String call : List.of("move 1 -1", "move 1 2", "move 1 -4", "close 1")) {
            runs(MUCH_OF_ALL + "9 x man 20 0 0 0 1 false\n" + call + " ! NO");
        }
        runs(MUCH_OF_ALL + "worth 0 7 ! -2000001\nworth 3 0 ! -2000002\nworth -1 0 ! -2000002");
        runs(MUCH_OF_ALL + "4 x pit 9 9 9 9 9\npit 1 1 1 1 1 ! FULL");
        runs(MUCH_OF_ALL + "17 x man 20 0 0 0 0 false\nman 30 1 1 1 1 true ! FULL");
        runs(MUCH_OF_ALL + "38 x say 33\nsay 97 ! FULL");
        runs(MUCH_OF_ALL + "10 x way 0 2 900\nway 0 2 0 ! FULL");
        runs(MUCH_OF_ALL + "8 x harm 0 0 0 0\nharm 1 2 50 7 ! FULL");
    }

    private static void numbersFarOutside() {
        on("another number is not as told");
        String[][] refusals = {
            {"town 0 1 1", "UNKNOWN OUTSIDE OUTSIDE"}, {"pit 1 1 1 1 1", "OUTSIDE OUTSIDE OUTSIDE OUTSIDE OUTSIDE"},
            {"about 0 0", "UNKNOWN OUTSIDE"}, {"man 20 0 0 0 0 true", "OUTSIDE OUTSIDE OUTSIDE UNKNOWN UNKNOWN"},
            {"ofMan 0 0", "UNKNOWN OUTSIDE"}, {"leave 0", "UNKNOWN"}, {"posts 0 0 0", "UNKNOWN OUTSIDE OUTSIDE"},
            {"set 1 1", "OUTSIDE OUTSIDE"}, {"say 97", "OUTSIDE"}, {"rule 0", "OUTSIDE"},
            {"worth 0 0", "-2000002 -2000001"}, {"move 0 0", "UNKNOWN UNKNOWN"}, {"close 0", "UNKNOWN"},
            {"inflow 0 0", "UNKNOWN OUTSIDE"}, {"pump 0 false", "UNKNOWN"}, {"way 0 1 0", "UNKNOWN UNKNOWN OUTSIDE"},
            {"months 1", "OUTSIDE"}, {"threat 0 0", "UNKNOWN UNKNOWN"}, {"price 0 0 0", "UNKNOWN UNKNOWN OUTSIDE"},
            {"plan 0 0", "OUTSIDE OUTSIDE"}, {"best 0", "OUTSIDE"}, {"vote 0 0", "UNKNOWN OUTSIDE"},
            {"worked 0 0 99", "UNKNOWN OUTSIDE OUTSIDE"}, {"harm 0 0 0 0", "OUTSIDE OUTSIDE OUTSIDE OUTSIDE"},
            {"whose 0", "UNKNOWN"}, {"part 0 0", "UNKNOWN UNKNOWN"}, {"work 0 0", "UNKNOWN OUTSIDE"},
            {"told 0", "OUTSIDE"}};
        for (String[] row : refusals) {
            String[] words = row[0].split(" ");
            String[] due = row[1].split(" ");
            for (int i = 0; i < due.length; i++) {
                for (String far : new String[] {"MIN", "MAX", "-2147483647", "2147483646", "-1000000000", "-256"}) {
                    String[] other = words.clone();
                    other[i + 1] = far;
                    runs(MUCH_OF_ALL + String.join(" ", other) + " ! " + due[i]);
                }
            }
        }
    }

    private static void quotientsAreCut() {
        on("Quotients are cut.", """
            pit 0 0 0 0 1000; pit 0 0 0 0 1000; pump 0 false; pump 1 false; way 0 1 0; inflow 0 3; months 1
            about 1 7 = 1; about 0 7 = 2
            ---
            pit 0 0 0 0 5; pit 0 0 0 0 5; pump 0 false; pump 1 false; inflow 0 1; inflow 1 2
            months 1 = 1
            about 0 8 = NONE; about 1 8 = 0
            ---
            pit 0 0 0 0 59; harm 0 1 0 0; harm 0 2 0 0
            whose 0 = 1; whose 1 = 0
            ---
            pit 0 0 0 0 1; pit 0 0 0 0 1; pit 0 0 0 0 1; harm 0 0 0 11
            part 0 0 = 5; part 0 1 = 3; part 0 2 = 3
            """);
    }

    private static void fiveHundredTwelveCalls() {
        on("An object is used for at most 512 calls after it has been made", """
            8 x pit 0 0 0 0 1; inflow 0 100; inflow 1 100; inflow 2 100; inflow 3 100; inflow 4 100
            inflow 5 100; inflow 6 100; inflow 7 100
            494 x months 240 = 0
            told 5 = 118560; told 6 = 94848000
            ---
            pit 0 0 0 0 1; pump 0 false; inflow 0 100
            months 240 = 1; 506 x months 240 = 0
            about 0 7 = 1
            told 7 = 12167999
            ---
            511 x year = 0
            told 5 = 0
            ---
            509 x town 5 9 9 = 1
            pit 0 0 0 0 1 = 0
            told 0 = 1
            lone = 0
            """);
    }

    // ---- 1 towns, pits, men

    private static void part1() {
        towns();
        pits();
        men();
        pension();
        posts();
        aYear();
    }

    private static void towns() {
        on("TOWNS 0 to 5 lie at x, y (0 to 99 each; 0, 0 at first).", """
            pit 3 4 0 0 1; text f; rule 0; man 20 0 0 0 0 false; man 20 0 0 1 0 false; man 20 0 0 2 0 false
            man 20 0 0 3 0 false; man 20 0 0 4 0 false; man 20 0 0 5 0 false
            worth 0 0 = 7; worth 0 1 = 7; worth 0 2 = 7; worth 0 3 = 7; worth 0 4 = 7; worth 0 5 = 7
            ---
            pit 0 0 0 0 1; text f; rule 0; man 20 0 0 0 0 false; man 20 0 0 5 0 false
            town 0 99 0 = 1
            worth 0 0 = 99
            town 0 0 99 = 1
            worth 0 0 = 99
            town 5 99 99 = 1
            worth 0 1 = 198; worth 0 0 = 99
            town -1 1 1 ! UNKNOWN; town 6 1 1 ! UNKNOWN; town 0 -1 1 ! OUTSIDE; town 0 100 1 ! OUTSIDE
            town 5 1 -1 ! OUTSIDE; town 5 1 100 ! OUTSIDE
            town 5 0 0 = 1
            worth 0 1 = 0
            """);
        on("HOW FAR two places are: both differences, by size, together.", """
            town 0 50 50; pit 53 54 0 0 1; pit 47 46 0 0 1; pit 53 46 0 0 1; pit 47 54 0 0 1; pit 50 50 0 0 1
            text f; rule 0; man 20 0 0 0 0 false; man 20 0 0 0 1 false; man 20 0 0 0 2 false
            man 20 0 0 0 3 false; man 20 0 0 0 4 false
            worth 0 0 = 7; worth 0 1 = 7; worth 0 2 = 7; worth 0 3 = 7; worth 0 4 = 0
            ---
            town 0 99 0; pit 0 99 0 0 1; text f; rule 0; man 20 0 0 0 0 false
            worth 0 0 = 198
            """);
    }

    private static void pits() {
        on("PITS, 8 at most, numbered from 0 on", """
            8 x pit 0 0 0 0 1 =+ 0
            pit 0 0 0 0 1 ! FULL
            told 0 = 8
            about 7 4 = 1
            about 8 4 ! UNKNOWN; about -1 4 ! UNKNOWN
            close 0 = 0
            pit 0 0 0 0 1 ! FULL
            """);
        on("a place x, y, TONS a year (0 to 1000), COST of a ton (0 to 200), DEPTH (1 to 1000)", """
            pit 0 0 0 0 1 = 0
            about 0 0 = 0; about 0 1 = 0; about 0 2 = 0; about 0 3 = 0; about 0 4 = 1
            pit 99 99 1000 200 1000 = 1
            about 1 0 = 99; about 1 1 = 99; about 1 2 = 1000; about 1 3 = 200; about 1 4 = 1000
            pit -1 0 0 0 1 ! OUTSIDE; pit 100 0 0 0 1 ! OUTSIDE; pit 0 -1 0 0 1 ! OUTSIDE
            pit 0 100 0 0 1 ! OUTSIDE; pit 0 0 -1 0 1 ! OUTSIDE; pit 0 0 1001 0 1 ! OUTSIDE
            pit 0 0 0 -1 1 ! OUTSIDE; pit 0 0 0 201 1 ! OUTSIDE; pit 0 0 0 0 0 ! OUTSIDE
            pit 0 0 0 0 1001 ! OUTSIDE
            pit 0 0 0 0 1 = 2
            """);
        on("they are OPEN till they are closed.", """
            8 x pit 0 0 0 0 1
            told 8 = 255
            about 7 5 = 1
            close 7 = 0
            about 7 5 = 0
            told 8 = 127
            year; months 1
            close 7 ! STATE
            close 0 = 0
            told 8 = 126
            about 1 5 = 1
            """);
    }

    private static void men() {
        on("MEN, 24 at most, numbered from 0 on", """
            pit 0 0 0 0 1
            24 x man 20 0 0 0 0 false =+ 0
            man 20 0 0 0 0 false ! FULL
            told 1 = 24
            ofMan 23 0 = 20
            ofMan 24 0 ! UNKNOWN; ofMan -1 0 ! UNKNOWN
            leave 0
            man 20 0 0 0 0 false ! FULL
            """);
        on("an AGE (14 to 70), a TRADE (0 to 2), YEARS below (0 to 50), a TOWN (their home), a PIT that is OPEN", """
            pit 0 0 0 0 1; pit 0 0 0 0 1
            man 14 0 0 0 0 false = 0
            ofMan 0 0 = 14; ofMan 0 1 = 0; ofMan 0 2 = 0; ofMan 0 3 = 0; ofMan 0 4 = 0; ofMan 0 5 = 0
            man 70 2 50 5 1 true = 1
            ofMan 1 0 = 70; ofMan 1 1 = 2; ofMan 1 2 = 50; ofMan 1 3 = 5; ofMan 1 4 = 1; ofMan 1 5 = 1
            man 13 0 0 0 0 false ! OUTSIDE; man 71 0 0 0 0 false ! OUTSIDE; man 20 -1 0 0 0 false ! OUTSIDE
            man 20 3 0 0 0 false ! OUTSIDE; man 20 0 -1 0 0 false ! OUTSIDE; man 20 0 51 0 0 false ! OUTSIDE
            man 20 0 0 -1 0 false ! UNKNOWN; man 20 0 0 6 0 false ! UNKNOWN; man 20 0 0 0 -1 false ! UNKNOWN
            man 20 0 0 0 2 false ! UNKNOWN
            close 0
            man 20 0 0 0 0 false ! STATE
            man 20 0 0 0 1 false = 2
            """);
    }

    private static void pension() {
        on("PENSIONED (at PENSION, 50 to 70; 60 at first, or more)", """
            pit 0 0 0 0 1; man 58 0 0 0 0 false; man 59 0 0 0 0 false; man 60 0 0 0 0 false
            ofMan 2 6 = 0
            year = 2
            ofMan 0 6 = 0; ofMan 1 6 = 2; ofMan 2 6 = 2
            ---
            pit 0 0 0 0 1
            set 0 50 = 60
            man 48 0 0 0 0 false; man 49 0 0 0 0 false; man 70 0 0 0 0 false
            year = 2
            ofMan 0 6 = 0; ofMan 1 6 = 2; ofMan 2 6 = 2
            ---
            pit 0 0 0 0 1
            set 0 70 = 60
            man 68 0 0 0 0 false; man 69 0 0 0 0 false; man 70 0 0 0 0 false
            year = 2
            ofMan 0 6 = 0; ofMan 1 6 = 2; ofMan 2 6 = 2
            year = 1
            set 0 49 ! OUTSIDE; set 0 71 ! OUTSIDE
            """);
    }

    private static void posts() {
        on("POSTS: how many more MEN of a TRADE a PIT takes (0 to 9; 0 at first).", """
            pit 0 0 0 0 1; pit 0 0 0 0 1
            about 1 10 = 0; about 1 11 = 0; about 1 12 = 0
            posts 1 0 9 = 0; posts 1 1 0 = 0; posts 1 2 8 = 0
            about 1 10 = 9; about 1 11 = 0; about 1 12 = 8; about 0 10 = 0
            posts 1 0 -1 ! OUTSIDE; posts 1 0 10 ! OUTSIDE; posts 1 -1 5 ! OUTSIDE; posts 1 3 5 ! OUTSIDE
            posts 2 0 5 ! UNKNOWN; posts -1 0 5 ! UNKNOWN
            posts 1 0 0 = 9; posts 1 0 9 = 0
            """);
    }

    private static void aYear() {
        on("all MEN that are not GONE are a year older (70 at most)", """
            pit 0 0 0 0 1; man 68 0 0 0 0 false; man 69 0 0 0 0 false; man 70 0 0 0 0 false
            man 14 0 0 0 0 false; man 40 0 0 0 0 false; leave 4; year
            ofMan 0 0 = 69; ofMan 1 0 = 70; ofMan 2 0 = 70; ofMan 3 0 = 15; ofMan 4 0 = 40
            year
            ofMan 0 0 = 70; ofMan 1 0 = 70
            year
            ofMan 0 0 = 70; ofMan 3 0 = 17; ofMan 4 0 = 40
            """);
        on("those at PITS have one more of YEARS (50 at most)", """
            pit 0 0 0 0 1; pit 0 0 0 0 1; text k; rule 0; man 20 0 48 0 0 false; man 20 0 49 0 0 false
            man 20 0 50 0 0 false; man 59 0 7 0 0 false; man 20 0 7 0 1 true; man 20 0 7 0 1 false
            man 20 0 7 0 0 false
            close 1 = 1
            leave 6
            year = 1
            ofMan 0 2 = 49; ofMan 1 2 = 50; ofMan 2 2 = 50; ofMan 3 2 = 8; ofMan 4 2 = 7; ofMan 5 2 = 7
            ofMan 6 2 = 7
            year
            ofMan 0 2 = 50; ofMan 1 2 = 50; ofMan 3 2 = 8
            year
            ofMan 0 2 = 50
            """);
        on("who is PENSION or more then is PENSIONED.", """
            pit 0 0 0 0 1; pit 0 0 0 0 1; text k; rule 0; man 58 0 0 0 0 true; man 58 0 0 0 0 false
            man 58 0 0 0 1 false; man 58 0 0 0 1 false
            close 0 = 1
            leave 3
            year = 0
            ofMan 0 6 = 1; ofMan 1 6 = 3; ofMan 2 6 = 0
            year = 3
            ofMan 0 6 = 2; ofMan 1 6 = 2; ofMan 2 6 = 2; ofMan 2 4 = NONE; ofMan 3 6 = 4
            about 1 6 = 0
            year = 0
            set 0 70
            year = 0
            told 12 = 3
            """);
    }

    // ---- 2 rules

    private static void part2() {
        signs();
        whatIsLaid();
        acts();
        theFault();
        everySign();
        numbersAreHeld();
        whatRulesTell();
    }

    /** A RULE of these signs comes to so much for a man of 44 with 17 YEARS, TRADE 2 and KIN, 40 from his PIT. */
    private static void comesTo(String text, int due) {
        runs("town 2 40 50\npit 50 20 1 1 1\nman 44 2 17 2 0 true\ntext " + text
            + "\nfault = NONE\nrule 1 = 1\nworth 1 0 = " + due);
    }

    private static void faultIs(String text, int due) {
        runs("text " + text + "\nfault = " + due + (due == -6 ? "\nrule 0 = 1" : "\nrule 0 ! NO"));
    }

    private static void signs() {
        on("RULES are texts of up to 40 signs (codes 33 to 126)", """
            say 33 = 1; say 126 = 2
            say 32 ! OUTSIDE; say 127 ! OUTSIDE; say 0 ! OUTSIDE; say -1 ! OUTSIDE; say 353 ! OUTSIDE
            38 x say 97 =+ 3
            say 97 ! FULL
            told 2 = 40
            wipe = 40
            say 97 = 1
            """);
        runs("pit 0 0 0 0 1\nman 20 0 0 0 0 false\nsay 97\n39 x say 33\nfault = NONE\nrule 0 = 1\nworth 0 0 = 0");
        runs("pit 0 0 0 0 1\nman 20 0 0 0 0 false\nsay 97\n38 x say 33\nfault = NONE\nrule 0 = 1\nworth 0 0 = 1");
        on("or the number of signs");
        runs("40 x say 49\nfault = 4\nwipe\n20 x say 97\nfault = 5\nwipe\nsay 97\n38 x say 33\nsay 97\nfault = 40");
    }

    private static void whatIsLaid() {
        on("f (how far his TOWN is from his PIT; 0, if he is at none)", """
            town 0 10 0; pit 0 0 0 0 1; pit 0 0 0 0 1; text k; rule 0; text f; rule 2; man 20 0 0 0 0 true
            man 20 0 0 0 0 false; man 60 0 0 0 1 false; man 20 0 0 0 1 false
            worth 2 0 = 10; worth 2 1 = 10; worth 2 2 = 10; worth 2 3 = 10
            close 0 = 1
            leave 3
            year = 1
            worth 2 0 = 0; worth 2 1 = 0; worth 2 2 = 0; worth 2 3 = 0
            """);
        comesTo("f", 40);
        on("k (1 with KIN, 0)", """
            pit 0 0 0 0 1; text k; rule 2; man 20 0 0 0 0 true; man 20 0 0 0 0 false
            worth 2 0 = 1; worth 2 1 = 0
            """);
        on("a (AGE), y (YEARS), t (TRADE)", """
            pit 0 0 0 0 1; text a; rule 0; text y; rule 1; text t; rule 2; man 14 0 0 0 0 false
            man 70 2 50 0 0 false
            worth 0 0 = 14; worth 1 0 = 0; worth 2 0 = 0; worth 0 1 = 70; worth 1 1 = 50; worth 2 1 = 2
            """);
        on("1 to 4 digits and a comma: that number");
        comesTo("0,", 0);
        comesTo("9,", 9);
        comesTo("10,", 10);
        comesTo("999,", 999);
        comesTo("9999,", 9999);
        comesTo("0000,", 0);
        comesTo("0010,", 10);
        comesTo("12,34,-", -22);
        faultIs(",", 0);
        faultIs("a,", 1);
        faultIs("1,,", 2);
        faultIs("1234,,", 5);
    }

    private static void acts() {
        on("take the two on top, the lower one first, and lay what comes of them");
        comesTo("7,3,+", 10);
        comesTo("7,3,-", 4);
        comesTo("3,7,-", -4);
        comesTo("7,3,*", 21);
        comesTo("1,7,3,--", -3);
        comesTo("9,1,7,3,4,----", 9 - (1 - (7 - (3 - 4))));
        on("truths are 1, 0");
        comesTo("3,7,<", 1);
        comesTo("7,7,<", 0);
        comesTo("7,3,<", 0);
        comesTo("7,3,>", 1);
        comesTo("7,7,>", 0);
        comesTo("3,7,>", 0);
        comesTo("7,7,=", 1);
        comesTo("7,8,=", 0);
        comesTo("0,1,-0,<", 1);
        comesTo("0,0,1,->", 1);
        on("& and | take all but 0 for true");
        for (String act : List.of("&", "|")) {
            comesTo("0,0," + act, 0);
            comesTo("0,2," + act, act.equals("|") ? 1 : 0);
            comesTo("2,0," + act, act.equals("|") ? 1 : 0);
            comesTo("2,4," + act, 1);
            comesTo("0,1,-2," + act, 1);
            comesTo("2,0,1,-" + act, 1);
            comesTo("0,1,-0," + act, act.equals("|") ? 1 : 0);
        }
        on("! takes one: 1 of 0, else 0");
        comesTo("0,!", 1);
        comesTo("1,!", 0);
        comesTo("2,!", 0);
        comesTo("0,1,-!", 0);
        comesTo("5,0,!+", 6);
    }

    private static void theFault() {
        on("an act with too few on the pile");
        for (char act : "+-*<>=&|".toCharArray()) {
            faultIs("" + act, 0);
            faultIs("a" + act, 1);
            faultIs("9," + act, 2);
            faultIs("ay" + act, -6);
            faultIs("ay" + act + act, 3);
            faultIs("aytkf" + act + act + act + act, -6);
            faultIs("aytkf" + act + act + act + act + act, 9);
        }
        faultIs("!", 0);
        faultIs("a!", -6);
        on("a sixth on the pile");
        for (String fifth : List.of("a", "y", "t", "k", "f")) {
            faultIs("aytk" + fifth, 5);
            faultIs("aytk" + fifth + "++++", -6);
            faultIs("aytkf" + fifth, 5);
            faultIs("1,2,3,4,5," + fifth, 10);
        }
        for (String digit : List.of("0", "9", "0,", "12,", "12345", "1a")) {
            faultIs("aytkf" + digit, 5);
        }
        faultIs("aytkf,", 5);
        faultIs("1,2,3,4,5,", 10);
        faultIs("1,2,3,4,5,++++", -6);
        faultIs("1,2,3,4,5,6", 10);
        faultIs("aytkf+a++++", -6);
        faultIs("aytkf+aa", 7);
        faultIs("aytkf!++++", -6);
        on("a fifth digit");
        faultIs("1234,", -6);
        faultIs("12345", 4);
        faultIs("12345,", 4);
        faultIs("00000,", 4);
        faultIs("a99999,", 5);
        faultIs("1234,56789,", 9);
        faultIs("12,34,56,+-", -6);
        on("a digit's number not ended by a comma");
        for (char other : "aytkf+-*<>=&|!b".toCharArray()) {
            faultIs("1" + other, 1);
            faultIs("1234" + other, 4);
            faultIs("ay1" + other, 3);
        }
        on("or the number of signs, if it ends early or one is not left");
        runs("fault = 0\nrule 0 ! NO");
        faultIs("1", 1);
        faultIs("1234", 4);
        faultIs("a1", 2);
        faultIs("ay+12", 5);
        faultIs("ay", 2);
        faultIs("aytkf", 5);
        faultIs("aytkf+++", 8);
        faultIs("1,2,", 4);
        on("THE FAULT: the first sign that can not stand there");
        faultIs("a+b", 1);
        faultIs("b+", 0);
        faultIs("ab", 1);
        faultIs("a12345b", 5);
        faultIs("aytkfabc", 5);
        faultIs("ay+~", 3);
    }

    /** Each of the 94 signs alone, behind two, and behind a digit. */
    private static void everySign() {
        on("the first sign that can not stand there");
        for (char sign = 33; sign <= 126; sign++) {
            boolean lays = "aytkf".indexOf(sign) >= 0;
            boolean isDigit = sign >= '0' && sign <= '9';
            boolean joins = "+-*<>=&|".indexOf(sign) >= 0;
            faultIs("" + sign, lays ? -6 : isDigit ? 1 : 0);
            faultIs("ay" + sign, joins ? -6 : lays || isDigit || sign == '!' ? 3 : 2);
            faultIs("5" + sign, sign == ',' ? -6 : isDigit ? 2 : 1);
        }
    }

    private static void numbersAreHeld() {
        on("Numbers are held to -1000000 .. 1000000.");
        comesTo("1000,1000,*", 1000000);
        comesTo("999,1001,*", 999999);
        comesTo("1000,1001,*", 1000000);
        comesTo("1000,1000,*1,+", 1000000);
        comesTo("1000,1000,*1,+1,-", 999999);
        comesTo("1000,1000,*1,-1,+", 1000000);
        comesTo("1000,1000,*1000,1000,*+", 1000000);
        comesTo("0,1000,1000,*-", -1000000);
        comesTo("1,1000,1000,*-", -999999);
        comesTo("0,1000,1000,*-1,-", -1000000);
        comesTo("0,1000,1000,*-1,-1,+", -999999);
        comesTo("0,1001,-1000,*", -1000000);
        comesTo("0,1000,1000,*-1000,1000,*-", -1000000);
        comesTo("1000,1000,*0,1000,1000,*--", 1000000);
        comesTo("9999,9999,*", 1000000);
        comesTo("9999,9999,*9999,9999,**", 1000000);
        comesTo("0,9999,9999,*-9999,9999,**", -1000000);
        comesTo("0,9999,9999,*-0,9999,9999,*-*", 1000000);
        comesTo("9999,9999,*1000,1000,*=", 1);
    }

    private static void whatRulesTell() {
        on("RULE 0 tells who may be BRIDGED, 1 who may not be moved farther than NEAR, 2 who votes yes", """
            pit 0 0 0 0 1; pit 99 0 0 0 1; posts 1 0 1; man 20 0 0 0 0 false; text 1,; rule 0
            move 0 -4 = 1
            vote 0 0 = 0
            text 0,; rule 0
            move 0 -4 = 0; move 0 0 = 1
            text 1,; rule 1
            move 0 0 = NONE; move 0 -1 = 1
            text 0,; rule 1
            move 0 0 = 1
            text 1,; rule 2
            vote 0 0 = 1
            move 0 -4 = 0; move 0 0 = 1
            text 0,; rule 2
            vote 0 0 = 0
            rule -1 ! OUTSIDE; rule 3 ! OUTSIDE
            """);
        on("what is not 0 is true", """
            pit 0 0 0 0 1; pit 99 0 0 0 1; posts 1 0 1; man 20 0 0 0 0 false; text 0,1,-; rule 2
            vote 0 0 = 1
            text 0,1,-; rule 1
            move 0 0 = NONE
            text 0,1,-; rule 0
            move 0 -4 = 1
            text 2,; rule 2
            vote 0 0 = 1
            text 2,; rule 0
            move 0 -4 = 1
            text 0,; rule 0; text 2,; rule 1
            move 0 0 = NONE
            text 0,; rule 1
            move 0 0 = 1
            """);
        on("none is there at first: then nobody.", """
            pit 0 0 0 0 1; pit 99 0 0 0 1; posts 1 0 1; man 70 0 50 0 0 true
            worth 0 0 = -2000006; worth 1 0 = -2000006; worth 2 0 = -2000006
            move 0 -4 = 0; move 0 0 = 1; move 0 -2 = 1
            vote 0 0 = 0; vote 0 1 = 0
            """);
    }

    // ---- 3 closing

    private static void part3() {
        nineAtMost();
        postsOfOthers();
        twelveSlots();
        far();
        theMove();
        takenPosts();
    }

    private static void nineAtMost() {
        on("the others (9 at most) go to POSTS", """
            pit 0 0 0 0 1; pit 0 0 0 0 1; posts 1 0 9; 9 x man 20 0 0 0 0 false
            move 0 -1 = 0; move 0 -4 = 0
            close 0 = 0
            about 1 6 = 9; about 1 10 = 0
            ---
            pit 0 0 0 0 1; 10 x man 20 0 0 0 0 false
            move 0 -1 ! NO; move 0 -4 ! NO; move 0 9 ! NO
            close 0 ! NO
            leave 9
            move 0 -1 = 9; move 0 8 = NONE
            close 0 = 9
            told 13 = 9
            """);
        on("its MEN for whom RULE 0 is true are BRIDGED", """
            pit 0 0 0 0 1; text 1,; rule 0; 24 x man 20 0 0 0 0 false
            move 0 -4 = 24; move 0 -1 = 0; move 0 23 = NONE
            close 0 = 0
            told 11 = 24
            ---
            pit 0 0 0 0 1; text k; rule 0; 10 x man 20 0 0 0 0 false; 14 x man 20 0 0 0 0 true
            move 0 -4 ! NO
            close 0 ! NO
            leave 0
            move 0 -4 = 14; move 0 -1 = 9
            close 0 = 9
            told 11 = 14; told 13 = 9; told 14 = 1
            ---
            pit 0 0 0 0 1
            move 0 -1 = 0; move 0 -2 = 0; move 0 -3 = 0; move 0 -4 = 0
            close 0 = 0
            """);
    }

    private static void postsOfOthers() {
        on("POSTS of other OPEN PITS, of their TRADE, one each", """
            pit 0 0 0 0 1; pit 0 0 0 0 1; pit 0 0 0 0 1; man 20 1 0 0 0 false; man 20 1 0 0 0 false; posts 0 1 9
            move 0 -1 = 2
            posts 1 0 9; posts 1 2 2
            move 0 -1 = 2
            posts 1 0 0; posts 1 1 1
            move 0 -1 = 1
            posts 2 1 1
            move 0 -1 = 0
            close 2
            move 0 -1 = 1; move 0 0 = 1; move 0 1 = NONE
            """);
    }

    private static void twelveSlots() {
        on("SLOTS: these POSTS one by one, by PITS, then TRADES; the first 12 of them alone", """
            4 x pit 0 0 0 0 1; man 20 0 0 0 0 false; posts 1 2 9; posts 2 1 2; posts 3 0 1
            move 0 0 = 3
            posts 2 1 3
            move 0 0 = NONE; move 0 -1 = 1
            posts 1 2 8
            move 0 0 = 3
            ---
            3 x pit 0 0 0 0 1; man 20 2 0 0 0 false; posts 1 0 9; posts 1 1 2; posts 1 2 1
            move 0 0 = 1
            posts 1 1 3
            move 0 0 = NONE
            ---
            3 x pit 0 0 0 0 1; man 20 2 0 0 0 false; posts 1 2 1; posts 2 0 9; posts 2 1 9
            move 0 0 = 1
            ---
            3 x pit 0 0 0 0 1; man 20 2 0 0 1 false; posts 1 0 9; posts 1 1 9; posts 2 2 1
            move 1 0 = 2
            posts 0 0 9; posts 0 1 3
            move 1 0 = NONE
            close 0
            move 1 0 = 2
            ---
            3 x pit 0 0 0 0 1; 9 x man 20 0 0 0 0 false; posts 1 1 9; posts 2 0 9
            move 0 -1 = 6; move 0 2 = 2; move 0 3 = NONE
            close 0 = 6
            about 2 10 = 6; about 1 11 = 9
            """);
    }

    private static void far() {
        on("One is FAR, if the new PIT is farther from his TOWN than NEAR (0 to 200; 30 at first)", """
            pit 50 50 0 0 1; pit 30 0 0 0 1; man 20 0 0 0 0 false; posts 1 0 1
            move 0 -2 = 0; move 0 -3 = 30
            ---
            pit 50 50 0 0 1; pit 30 1 0 0 1; man 20 0 0 0 0 false; posts 1 0 1
            move 0 -2 = 1; move 0 -3 = 31
            set 1 31 = 30
            move 0 -2 = 0
            ---
            town 0 7 7; pit 50 50 0 0 1; pit 7 7 0 0 1; pit 7 8 0 0 1; man 20 0 0 0 0 false
            set 1 0 = 30
            posts 1 0 1
            move 0 -2 = 0; move 0 -3 = 0
            posts 1 0 0; posts 2 0 1
            move 0 -2 = 1; move 0 -3 = 1
            ---
            pit 0 0 0 0 1; pit 99 99 0 0 1; man 20 0 0 0 0 false; posts 1 0 1; set 1 197
            move 0 -2 = 1
            set 1 198
            move 0 -2 = 0
            set 1 200
            move 0 -2 = 0
            set 1 -1 ! OUTSIDE; set 1 201 ! OUTSIDE
            """);
        on("for whom RULE 1 is true may not go FAR.", """
            pit 0 0 0 0 1; pit 31 0 0 0 1; pit 30 0 0 0 1; man 20 0 0 0 0 true; text k; rule 1; posts 1 0 1
            move 0 0 = NONE; move 0 -1 = 1; move 0 -2 = 0; move 0 -3 = 0
            posts 2 0 1
            move 0 0 = 2; move 0 -1 = 0; move 0 -3 = 30
            posts 2 0 0; set 1 31
            move 0 0 = 1
            ---
            pit 0 0 0 0 1; pit 31 0 0 0 1; man 20 0 0 0 0 true; man 20 0 0 0 0 false; text k; rule 1
            posts 1 0 1
            move 0 0 = NONE; move 0 1 = 1
            close 0 = 1
            ofMan 0 6 = 3; ofMan 1 4 = 1
            """);
    }

    private static void theMove() {
        on("THE MOVE: the fewest are LEFT, of several the fewest FAR", """
            pit 0 0 0 0 1; pit 1 0 0 0 1; pit 99 99 0 0 1; man 20 0 0 0 0 true; man 20 0 0 0 0 false; text k!
            rule 1; posts 1 0 1; posts 2 0 1
            move 0 -1 = 0; move 0 -2 = 1; move 0 -3 = 199; move 0 0 = 2; move 0 1 = 1
            ---
            pit 0 0 0 0 1; pit 99 99 0 0 1; 9 x man 20 0 0 0 0 false; posts 1 0 9
            move 0 -1 = 0; move 0 -2 = 9; move 0 -3 = 1782; move 0 8 = 1
            """);
        on("of several the fewest FAR, then the least sum of how far they go from their TOWNS", """
            town 0 14 16; town 1 0 0; pit 50 50 0 0 1; pit 30 0 0 0 1; pit 0 0 0 0 1; man 20 0 0 0 0 false
            man 20 0 0 1 0 false; posts 1 0 1; posts 2 0 1
            move 0 -2 = 0; move 0 -3 = 60; move 0 0 = 2; move 0 1 = 1
            set 1 31
            move 0 -3 = 60
            set 1 32
            move 0 -2 = 0; move 0 -3 = 32; move 0 0 = 1; move 0 1 = 2
            set 1 29
            move 0 -2 = 1; move 0 -3 = 32
            ---
            town 1 1 0; pit 50 50 0 0 1; pit 10 0 0 0 1; man 20 0 0 0 0 false; man 20 0 0 1 0 false; posts 1 0 1
            move 0 0 = NONE; move 0 1 = 1; move 0 -3 = 9
            town 1 0 0
            move 0 0 = 1; move 0 1 = NONE; move 0 -3 = 10
            """);
        on("then the first by SLOTS of MEN in order of numbers (none last)", """
            4 x pit 0 0 0 0 1; 3 x man 20 0 0 0 0 false; posts 3 0 1
            move 0 0 = 3; move 0 1 = NONE; move 0 2 = NONE
            posts 2 0 1
            move 0 0 = 2; move 0 1 = 3; move 0 2 = NONE
            posts 1 0 1
            move 0 0 = 1; move 0 1 = 2; move 0 2 = 3
            posts 1 0 2
            move 0 1 = 1; move 0 2 = 2
            ---
            pit 50 50 0 0 1; pit 0 0 0 0 1; pit 40 0 0 0 1; town 1 40 0; town 0 20 0; text t; rule 1
            man 20 0 0 0 0 false; man 20 0 0 1 0 false; posts 1 0 1; posts 2 0 1
            move 0 0 = 1; move 0 1 = 2
            town 1 0 0
            move 0 0 = 2; move 0 1 = 1
            town 1 20 0
            move 0 0 = 1; move 0 1 = 2
            """);
        runs("""
            pit 50 50 0 0 1; pit 0 0 0 0 1; pit 20 0 0 0 1; pit 0 20 0 0 1; town 0 10 0; town 1 0 10
            man 20 0 0 0 0 false; man 20 0 0 1 0 false; posts 1 0 1; posts 2 0 1; posts 2 1 9; posts 3 0 1
            move 0 0 = 1; move 0 1 = 3; move 0 -3 = 20
            town 0 0 10; town 1 10 0
            move 0 0 = 1; move 0 1 = 2
            ---
            4 x pit 0 0 0 0 1; 8 x man 20 0 0 0 0 false; man 20 2 0 0 0 false; posts 1 0 4; posts 2 2 1
            posts 3 0 4; posts 3 2 1
            move 0 7 = 3; move 0 8 = 2
            ---
            pit 0 0 0 0 1; pit 0 0 0 0 1; pit 0 0 0 0 1; 9 x man 20 0 0 0 0 false; posts 1 0 3; posts 2 0 5
            move 0 0 = 1; move 0 2 = 1; move 0 3 = 2; move 0 7 = 2; move 0 8 = NONE
            close 0 = 1
            ofMan 2 4 = 1; ofMan 3 4 = 2; ofMan 8 6 = 3
            """);
    }

    private static void takenPosts() {
        on("POSTS that are taken are fewer by that.", """
            3 x pit 0 0 0 0 1; man 20 0 0 0 0 false; man 20 0 0 0 0 false; man 20 2 0 0 0 false
            man 20 1 0 0 0 false; posts 1 0 1; posts 2 0 9; posts 1 2 1; posts 2 2 1; posts 0 0 9
            move 0 -1 = 1
            about 1 10 = 1
            close 0 = 1
            about 1 10 = 0; about 2 10 = 8; about 1 12 = 0; about 2 12 = 1; about 1 11 = 0
            """);
        on("A PIT CLOSES (its POSTS go): how many are LEFT.", """
            2 x pit 0 0 0 0 1; posts 0 0 1; posts 0 1 9; posts 0 2 9
            close 0 = 0
            about 0 10 = 0; about 0 11 = 0; about 0 12 = 0
            posts 0 0 1 ! STATE
            close 0 ! STATE; close 2 ! UNKNOWN; close -1 ! UNKNOWN
            man 20 0 0 0 1 false
            close 1 = 1
            told 8 = 0
            """);
    }

    // ---- 4 water

    private static void part4() {
        waterAtFirst();
        ways();
        whatRuns();
        pumpedAndSpilt();
        drowning();
        threats();
    }

    private static void waterAtFirst() {
        on("INFLOW a month (0 to 100; 0 at first)", """
            pit 0 0 0 0 1000; pump 0 false; months 1
            about 0 7 = 0
            inflow 0 100 = 0
            months 1
            about 0 7 = 100
            inflow 0 -1 ! OUTSIDE; inflow 0 101 ! OUTSIDE; inflow 1 5 ! UNKNOWN; inflow -1 5 ! UNKNOWN
            inflow 0 0 = 100
            months 1
            about 0 7 = 100
            inflow 0 1 = 0
            months 1
            about 0 7 = 101
            """);
        on("a LEVEL (0 to its DEPTH; 0 at first)", """
            pit 0 0 0 0 1; pit 0 0 0 0 1000
            about 0 7 = 0; about 1 7 = 0
            pump 0 false; pump 1 false; inflow 0 1; inflow 1 100; months 1
            about 0 7 = 1
            months 9
            about 0 7 = 1; about 1 7 = 1000
            told 7 = 9
            months 1
            about 1 7 = 1000
            told 7 = 110
            """);
        on("a pump that runs (at first) or not", """
            pit 0 0 0 0 10
            about 0 9 = 1
            pump 0 true = 1; pump 0 false = 1
            about 0 9 = 0
            pump 0 false = 0; pump 0 true = 0; pump 0 true = 1
            pump 1 true ! UNKNOWN; pump -1 false ! UNKNOWN
            close 0
            pump 0 false = 1
            """);
    }

    private static void ways() {
        on("WAYS, 12 at most, numbered from 0 on: between two PITS at a height (0 to 1000).", """
            pit 0 0 0 0 1; pit 0 0 0 0 1
            way 0 1 0 = 0; way 1 0 1000 = 1
            way 0 1 -1 ! OUTSIDE; way 0 1 1001 ! OUTSIDE; way 0 0 5 ! UNKNOWN; way 1 1 5 ! UNKNOWN
            way 2 0 5 ! UNKNOWN; way 0 2 5 ! UNKNOWN; way -1 0 5 ! UNKNOWN; way 0 -1 5 ! UNKNOWN
            10 x way 0 1 5 =+ 2
            way 0 1 5 ! FULL
            told 3 = 12
            """);
        on("if the LEVEL of one of both is above the height", """
            pit 0 0 0 0 1000; pit 0 0 0 0 1000; pump 0 false; pump 1 false; way 0 1 50; inflow 0 50; months 1
            about 0 7 = 50; about 1 7 = 0
            inflow 0 1; months 1
            about 0 7 = 51; about 1 7 = 0
            months 1
            about 0 7 = 51; about 1 7 = 1
            ---
            pit 0 0 0 0 1000; pit 0 0 0 0 1000; pump 0 false; pump 1 false; way 0 1 1000; inflow 0 100
            months 10
            about 0 7 = 1000; about 1 7 = 0
            months 1
            about 0 7 = 1000; about 1 7 = 50
            told 7 = 50
            """);
        on("and above the other's (LEVELS as they are by then)", """
            pit 0 0 0 0 1000; pit 0 0 0 0 1000; pump 0 false; pump 1 false; way 0 1 0; inflow 0 10; inflow 1 10
            months 1
            about 0 7 = 10; about 1 7 = 10
            inflow 0 0; inflow 1 1; months 1
            about 0 7 = 10; about 1 7 = 11
            months 1
            about 0 7 = 11; about 1 7 = 11
            ---
            3 x pit 0 0 0 0 1000; pump 0 false; pump 1 false; pump 2 false; way 0 1 0; way 1 2 0; inflow 0 80
            months 1
            about 0 7 = 40; about 1 7 = 20; about 2 7 = 20
            ---
            3 x pit 0 0 0 0 1000; pump 0 false; pump 1 false; pump 2 false; way 1 2 0; way 0 1 0; inflow 0 80
            months 1
            about 0 7 = 40; about 1 7 = 40; about 2 7 = 0
            """);
    }

    private static void whatRuns() {
        on("half of what it is above the greater one of the height and the other's LEVEL, cut, runs to the other", """
            pit 0 0 0 0 1000; pit 0 0 0 0 1000; pump 0 false; pump 1 false; inflow 0 100; inflow 1 20; months 1
            inflow 0 0; inflow 1 0; way 0 1 19; months 1
            about 0 7 = 60; about 1 7 = 60
            ---
            pit 0 0 0 0 1000; pit 0 0 0 0 1000; pump 0 false; pump 1 false; inflow 0 100; inflow 1 20; months 1
            inflow 0 0; inflow 1 0; way 0 1 20; months 1
            about 0 7 = 60; about 1 7 = 60
            ---
            pit 0 0 0 0 1000; pit 0 0 0 0 1000; pump 0 false; pump 1 false; inflow 0 20; inflow 1 100; months 1
            inflow 0 0; inflow 1 0; way 0 1 21; months 1
            about 0 7 = 59; about 1 7 = 61
            ---
            pit 0 0 0 0 1000; pit 0 0 0 0 1000; pump 0 false; way 1 0 0; inflow 0 100; months 1
            about 0 7 = 50; about 1 7 = 0
            told 6 = 50
            """);
    }

    private static void pumpedAndSpilt() {
        on("all its LEVEL is PUMPED (counted), it is 0", """
            pit 0 0 0 0 1; pit 0 0 0 0 1000; inflow 0 100
            months 1 = 0
            about 0 7 = 0
            told 6 = 100; told 7 = 0
            inflow 1 100; pump 1 false; months 10
            told 6 = 1100
            pump 1 true; months 1
            about 1 7 = 0
            told 6 = 2300; told 7 = 0
            """);
        on("of others what is above DEPTH is SPILT (counted)", """
            pit 0 0 0 0 100; pump 0 false; inflow 0 50; months 2
            about 0 7 = 100
            told 7 = 0
            inflow 0 1; months 1
            about 0 7 = 100
            told 7 = 1
            inflow 0 100; months 1
            about 0 7 = 100
            told 7 = 101; told 6 = 0
            """);
    }

    /** With an INFLOW a PIT of this DEPTH DROWNS in its first month, with one less it does not. */
    private static void drownsAt(int depth, int level) {
        runs("pit 0 0 0 0 " + depth + "\npump 0 false\ninflow 0 " + level
            + "\nthreat 0 0 = 0\nmonths 1 = 1\nabout 0 8 = 0\nmonths 1 = 0\nabout 0 8 = 0");
        runs("pit 0 0 0 0 " + depth + "\npump 0 false\ninflow 0 " + (level - 1)
            + "\nmonths 1 = 0\nabout 0 8 = NONE\nabout 0 7 = " + (level - 1));
    }

    private static void drowning() {
        on("as soon as its LEVEL is above a third of its DEPTH behind a MONTH");
        drownsAt(1, 1);
        drownsAt(2, 1);
        drownsAt(3, 2);
        drownsAt(4, 2);
        drownsAt(5, 2);
        drownsAt(6, 3);
        drownsAt(296, 99);
        drownsAt(297, 100);
        drownsAt(298, 100);
        drownsAt(299, 100);
        runs("""
            pit 0 0 0 0 1000; pit 0 0 0 0 999; pump 0 false; pump 1 false; inflow 0 37; inflow 1 37
            months 9 = 0
            about 0 7 = 333; about 1 7 = 333
            inflow 0 1; inflow 1 0
            months 1 = 1
            about 0 8 = 9; about 1 8 = NONE
            ---
            pit 0 0 0 0 3; inflow 0 100
            months 240 = 0
            about 0 8 = NONE
            """);
        on("it is marked, with that MONTH (from 0 on, of all that went by), the first such", """
            months 240 = 0
            pit 0 0 0 0 3; pit 0 0 0 0 3; pit 0 0 0 0 3; pump 0 false; pump 1 false; inflow 0 2; inflow 1 1
            months 1 = 1
            about 0 8 = 240; about 1 8 = NONE
            months 1 = 1
            about 0 8 = 240; about 1 8 = 241
            pump 0 true
            months 1 = 0
            about 0 7 = 0; about 0 8 = 240
            pump 0 false
            months 5 = 0
            about 0 8 = 240; about 2 8 = NONE
            """);
        on("So many MONTHS (1 to 240): how many PITS DROWN in them. OUTSIDE.", """
            months 0 ! OUTSIDE; months -1 ! OUTSIDE; months 241 ! OUTSIDE
            told 5 = 0
            months 1 = 0
            told 5 = 1
            months 240 = 0
            told 5 = 241
            ---
            8 x pit 0 0 0 0 1; pump 0 false; pump 1 false; pump 2 false; pump 3 false; pump 4 false
            pump 5 false; pump 6 false; pump 7 false; inflow 0 1; inflow 1 1; inflow 2 1; inflow 3 1; inflow 4 1
            inflow 5 1; inflow 6 1
            months 240 = 7
            inflow 7 1
            months 240 = 1; months 240 = 0
            """);
    }

    private static void threats() {
        on("from now on (0: the first one), in which a PIT would DROWN", """
            pit 0 0 0 0 3; inflow 0 2
            threat 0 0 = 0
            months 7
            threat 0 0 = 0
            inflow 0 1
            threat 0 0 = 1
            pump 0 false
            threat 0 0 = 1
            months 1
            threat 0 0 = 0
            """);
        on("if the pump of another one (or its own) stopped now, and all else stayed", """
            3 x pit 0 0 0 0 300; way 0 1 50; pump 1 false; inflow 0 100
            threat 0 0 = 1; threat 1 0 = 2; threat 0 1 = NONE; threat 1 1 = NONE; threat 1 2 = NONE
            threat 2 0 = NONE
            told 5 = 0; told 6 = 0
            about 0 7 = 0; about 0 9 = 1; about 0 8 = NONE
            """);
        runs("""
            4 x pit 0 0 0 0 300; way 3 2 0; way 2 1 0; inflow 3 100; pump 2 false; pump 1 false
            threat 2 3 = 3; threat 1 3 = 3; threat 3 3 = 2; threat 0 3 = NONE; threat 1 0 = NONE
            """);
        on("NONE: not within 240, or it did already.", """
            pit 0 0 0 0 719; pit 0 0 0 0 720; pit 0 0 0 0 1; inflow 0 1; inflow 1 1
            threat 0 0 = 239; threat 1 1 = NONE; threat 2 2 = NONE
            pump 1 false; months 1
            threat 1 1 = 239; threat 0 0 = 239
            inflow 2 1; pump 2 false
            threat 2 2 = 0
            months 1 = 1
            threat 2 2 = NONE
            pump 2 true
            threat 2 2 = NONE
            threat 3 0 ! UNKNOWN; threat 0 3 ! UNKNOWN; threat -1 0 ! UNKNOWN; threat 0 -1 ! UNKNOWN
            """);
    }

    // ---- 5 plans

    private static void part5() {
        prices();
        digits();
        whatAYearCosts();
        burden();
        kept();
        atOnce();
        worst();
        theBestPlan();
    }

    private static void prices() {
        on("PRICES: ROWS 0 to 2 of up to 5 years (0 to 200 a ton; 100 at first).");
        StringBuilder run = new StringBuilder();
        for (String rows : List.of(" 0 = 100\n", " 200 = 0\n", " 100 = 200\n")) {
            for (int at = 0; at < 15; at++) {
                run.append("price ").append(at / 5).append(' ').append(at % 5).append(rows);
            }
        }
        runs(run + """
            price 0 0 -1 ! OUTSIDE; price 2 4 201 ! OUTSIDE; price -1 0 7 ! UNKNOWN; price 3 0 7 ! UNKNOWN
            price 0 -1 7 ! UNKNOWN; price 0 5 7 ! UNKNOWN; price 1 5 7 ! UNKNOWN; price 1 -1 7 ! UNKNOWN
            """);
    }

    private static void digits() {
        on("A PLAN tells for each PIT a year 0 to 5 from which on it is closed (5: not within them)", """
            pit 0 0 10 110 1; pit 0 0 20 110 1; set 5 5
            plan 55 1 = 1500; plan 5 1 = 1000; plan 50 1 = 500; plan 45 1 = 1400; plan 54 1 = 1300
            plan 15 1 = 1100; plan 0 1 = 0
            plan 56 1 ! OUTSIDE; plan 9 1 ! OUTSIDE; plan 65 1 ! OUTSIDE; plan 60 1 ! OUTSIDE
            plan 100 1 ! OUTSIDE; plan 155 1 ! OUTSIDE; plan -1 1 ! OUTSIDE; plan -55 1 ! OUTSIDE
            plan -10 1 ! OUTSIDE; plan -100 1 ! OUTSIDE
            ---
            8 x pit 0 0 1 101 1; set 5 5
            plan 55555555 1 = 40; plan 50000000 1 = 5; plan 5 1 = 5; plan 0 1 = 0
            plan 55555556 1 ! OUTSIDE; plan 60000000 1 ! OUTSIDE; plan 100000000 1 ! OUTSIDE
            plan 500000000 1 ! OUTSIDE; plan MAX 1 ! OUTSIDE; plan MIN 1 ! OUTSIDE
            ---
            plan 0 0 = 1; plan 0 1 = 0; plan 0 2 = 0
            plan 1 0 ! OUTSIDE; plan 5 0 ! OUTSIDE; plan -1 0 ! OUTSIDE
            """);
        on("of PITS that are closed now 0.", """
            pit 0 0 10 110 1; pit 0 0 20 110 1; close 0
            plan 5 1 = 600; plan 0 1 = 0
            plan 15 1 ! OUTSIDE; plan 55 1 ! OUTSIDE; plan 10 0 ! OUTSIDE
            best 0 = 0
            set 3 1
            best 0 = 3
            ---
            pit 0 0 1 100 1; close 0; set 2 10
            best 0 = 0; best 1 = 30
            """);
    }

    private static void whatAYearCosts() {
        on("an OPEN PIT costs TONS times (COST less the PRICE), not below 0", """
            pit 0 0 7 100 1; set 5 1
            plan 5 1 = 0
            price 0 0 99
            plan 5 1 = 7
            price 0 0 101; price 1 0 101; price 2 0 101
            plan 5 1 = 0
            price 0 0 200; price 1 0 200; price 2 0 200
            plan 5 1 = 0
            ---
            pit 0 0 1 100 1; set 5 2; price 0 0 0; price 0 1 200
            plan 5 1 = 100
            ---
            pit 0 0 1 100 1; pit 0 0 1 0 1; set 5 1; price 0 0 50
            plan 55 1 = 50
            ---
            pit 0 0 0 200 1
            plan 5 1 = 0
            ---
            pit 0 0 1000 200 1; set 5 1; price 2 0 0
            plan 5 1 = 200000
            """);
        runs("8 x pit 0 0 1000 200 1\n" + allPrices(0) + """
            set 5 5
            plan 55555555 1 = 8000000
            set 3 5000
            best 1 = 5000000; best 0 = 55555
            """);
    }

    private static String allPrices(int v) {
        StringBuilder rows = new StringBuilder();
        for (int at = 0; at < 15; at++) {
            rows.append("price ").append(at / 5).append(' ').append(at % 5).append(' ').append(v).append('\n');
        }
        return rows.toString();
    }

    private static void burden() {
        on("one that is closed from that year on costs BURDEN (0 to 10000; 0 at first) of it in each year", """
            pit 0 0 0 0 1
            plan 0 1 = 0
            set 2 10000 = 0
            plan 0 1 = 30000; plan 1 1 = 20000; plan 2 1 = 10000; plan 3 1 = 0; plan 4 1 = 0; plan 5 1 = 0
            set 5 5
            plan 0 1 = 50000; plan 4 1 = 10000; plan 5 1 = 0
            set 5 1
            plan 0 1 = 10000; plan 1 1 = 0
            set 2 -1 ! OUTSIDE; set 2 10001 ! OUTSIDE
            close 0
            plan 0 1 = 10000
            set 2 0 = 10000
            plan 0 1 = 0
            ---
            8 x pit 0 0 0 0 1; set 2 10000; set 5 5
            plan 0 1 = 400000
            """);
    }

    private static void kept() {
        on("in each of N years (1 to 5; 3 at first)", """
            pit 0 0 10 0 1; set 3 10
            plan 2 0 = 0; plan 3 0 = 1
            set 5 1 = 3
            plan 0 0 = 0; plan 1 0 = 1
            set 5 5 = 1
            plan 4 0 = 0; plan 5 0 = 1
            set 5 0 ! OUTSIDE; set 5 6 ! OUTSIDE
            told 25 = 5
            """);
        on("TONS of OPEN ones are what is OWED (0 to 5000; 0) or more", """
            pit 0 0 10 0 1; pit 0 0 5 0 1
            plan 0 0 = 1
            set 3 10 = 0
            plan 50 0 = 1; plan 5 0 = 0; plan 20 0 = 0; plan 30 0 = 1
            set 3 11
            plan 50 0 = 0; plan 55 0 = 1; plan 53 0 = 1; plan 52 0 = 0
            set 3 15
            plan 55 0 = 1; plan 25 0 = 0
            set 3 16
            plan 55 0 = 0
            set 3 -1 ! OUTSIDE; set 3 5001 ! OUTSIDE
            set 3 0 = 16
            plan 0 0 = 1
            ---
            set 3 1
            plan 0 0 = 0
            ---
            5 x pit 0 0 1000 0 1
            set 3 5000 = 0
            plan 55555 0 = 1; plan 55553 0 = 1; plan 55552 0 = 0
            best 0 = 33333
            ---
            4 x pit 0 0 1000 0 1; pit 0 0 999 0 1; set 3 5000
            plan 55555 0 = 0
            best 0 ! NO
            set 3 4999
            plan 55555 0 = 1
            best 0 = 33333
            close 4
            plan 55550 0 = 0
            best 1 ! NO
            """);
    }

    private static void atOnce() {
        on("in each of these no more than AT ONCE (1 to 8; 8) PITS are closed from it on", """
            8 x pit 0 0 0 0 1
            plan 0 0 = 1; plan 22222222 0 = 1
            set 4 7 = 8
            plan 0 0 = 0; plan 1 0 = 1; plan 22222222 0 = 0; plan 22222223 0 = 1; plan 33333333 0 = 1
            set 4 1 = 7
            plan 33333333 0 = 1; plan 1233333 0 = 1; plan 1133333 0 = 0; plan 233333 0 = 0; plan 55555522 0 = 0
            plan 55555521 0 = 1
            set 4 0 ! OUTSIDE; set 4 9 ! OUTSIDE
            set 4 8 = 1
            plan 0 0 = 1
            """);
        on("those that are closed now do not count", """
            3 x pit 0 0 0 0 1; close 0; close 1; set 4 1
            plan 0 0 = 1
            best 0 = 0
            ---
            4 x pit 0 0 0 0 1; close 0; close 2; set 4 1
            plan 0 0 = 0; plan 1 0 = 1; plan 100 0 = 1; plan 101 0 = 0
            best 0 = 1
            """);
    }

    private static void worst() {
        on("WORST: the greatest of what it costs by ROWS in N years.", """
            pit 0 0 1 100 1; set 5 1
            plan 5 1 = 0
            price 2 0 99
            plan 5 1 = 1
            price 1 0 98
            plan 5 1 = 2
            price 0 0 97
            plan 5 1 = 3
            price 0 1 0
            plan 5 1 = 3
            set 5 2
            plan 5 1 = 103
            ---
            pit 0 0 1 100 1; price 0 4 0; set 5 4
            plan 5 1 = 0
            set 5 5
            plan 5 1 = 100
            """);
        on("the ROW by which that is, the first such (2)", """
            pit 0 0 1 100 1
            plan 5 2 = 0
            price 2 0 99
            plan 5 2 = 2
            price 1 1 99
            plan 5 2 = 1
            price 0 2 99
            plan 5 2 = 0
            price 1 0 99
            plan 5 2 = 1
            price 2 1 99
            plan 5 2 = 1
            price 2 2 99
            plan 5 2 = 2; plan 0 2 = 0
            """);
        on("OUTSIDE: digits that tell none, what.", """
            pit 0 0 1 100 1
            plan 0 -1 ! OUTSIDE; plan 0 3 ! OUTSIDE; plan 6 0 ! OUTSIDE; plan 6 3 ! OUTSIDE; plan 10 2 ! OUTSIDE
            plan 5 0 = 1; plan 5 1 = 0; plan 5 2 = 0
            """);
    }

    private static void theBestPlan() {
        on("THE BEST PLAN: KEPT, of the least WORST", """
            pit 0 0 1 102 1; pit 0 0 1 101 1; set 3 1
            best 0 = 3; best 1 = 3
            ---
            pit 0 0 1 101 1; pit 0 0 1 102 1; set 3 1
            best 0 = 30; best 1 = 3
            ---
            pit 0 0 1 101 1; set 2 2
            best 0 = 3; best 1 = 3
            set 2 1
            best 0 = 0; best 1 = 3
            set 2 0
            best 0 = 0; best 1 = 0
            ---
            pit 0 0 1 100 1; set 5 2; set 2 50; price 0 0 0; price 1 1 10
            best 0 = 0; best 1 = 100
            set 2 51
            best 0 = 2; best 1 = 100
            price 0 0 100
            best 0 = 1; best 1 = 51
            price 1 1 100; price 1 0 0; price 1 1 200; set 2 101
            best 0 = 2; best 1 = 100
            """);
        runs("""
            pit 0 0 1 100 1; pit 0 0 1 101 1; set 4 1; set 5 1
            best 0 = 10; best 1 = 0
            ---
            pit 0 0 1 110 1; pit 0 0 1 120 1; pit 0 0 1 130 1; set 2 5; set 3 1
            best 0 = 300; best 0 = 300; best 0 = 300; best 1 = 60
            set 2 0
            best 0 = 300; best 1 = 30
            set 3 2
            best 0 = 330; best 1 = 90
            """);
        on("of several the first by years of PITS in order.", """
            best 0 = 0; best 1 = 0
            ---
            8 x pit 0 0 0 0 1
            best 0 = 0
            set 4 1
            best 0 = 1233333
            set 5 1
            best 0 = 1111111
            set 5 5
            best 0 = 1234555
            set 4 3
            best 0 = 11122
            ---
            pit 0 0 1 101 1; pit 0 0 1 101 1; pit 0 0 1 101 1; set 3 2
            best 0 = 33; best 1 = 6
            set 3 3
            best 0 = 333
            set 3 1; set 5 5
            best 0 = 5
            """);
        on("OUTSIDE; NO: none is KEPT.", """
            best -1 ! OUTSIDE; best 2 ! OUTSIDE
            set 3 1
            best 0 ! NO; best 1 ! NO; best 2 ! OUTSIDE
            pit 0 0 1 0 1
            best 0 = 3
            set 3 2
            best 0 ! NO; best 1 ! NO
            set 3 1; close 0
            best 0 ! NO
            """);
    }

    // ---- 6 votes, harms, towns

    private static void part6() {
        votes();
        harms();
        canBe();
        parts();
        workOfTowns();
    }

    private static void votes() {
        on("it is for closing, if more than half of its MEN do.", """
            pit 0 0 0 0 1; text k; rule 2
            vote 0 0 = 0; vote 0 1 = 0
            man 20 0 0 0 0 true
            vote 0 0 = 1; vote 0 1 = 1
            man 20 0 0 0 0 false
            vote 0 0 = 1; vote 0 1 = 0
            man 20 0 0 0 0 false
            vote 0 1 = 0
            man 20 0 0 0 0 true
            vote 0 0 = 2; vote 0 1 = 0
            man 20 0 0 0 0 true
            vote 0 0 = 3; vote 0 1 = 1
            leave 4
            vote 0 0 = 2; vote 0 1 = 0
            leave 1
            vote 0 1 = 1
            ---
            2 x pit 0 0 0 0 1; text k; rule 2; 12 x man 20 0 0 0 0 true; 11 x man 20 0 0 0 0 false
            vote 0 0 = 12; vote 0 1 = 1
            man 20 0 0 0 0 false
            vote 0 0 = 12; vote 0 1 = 0; vote 1 0 = 0; vote 1 1 = 0
            """);
        on("UNKNOWN; OUTSIDE; STATE: it is closed.", """
            pit 0 0 0 0 1
            vote 1 0 ! UNKNOWN; vote -1 0 ! UNKNOWN; vote 0 2 ! OUTSIDE; vote 0 -1 ! OUTSIDE
            close 0
            vote 0 0 ! STATE; vote 0 1 ! STATE
            """);
    }

    private static void harms() {
        on("HARMS, 10 at most, numbered from 0 on: a place, a year (0 to 99), a sum (0 to 100000).", """
            pit 0 0 0 0 1; pit 99 99 0 0 1
            harm 0 0 0 0 = 0
            whose 0 = 1
            part 0 0 = 0
            harm 99 99 99 100000 = 1
            whose 1 = 2
            part 1 1 = 100000
            harm -1 0 0 0 ! OUTSIDE; harm 100 0 0 0 ! OUTSIDE; harm 0 -1 0 0 ! OUTSIDE; harm 0 100 0 0 ! OUTSIDE
            harm 0 0 -1 0 ! OUTSIDE; harm 0 0 100 0 ! OUTSIDE; harm 0 0 0 -1 ! OUTSIDE
            harm 0 0 0 100001 ! OUTSIDE
            8 x harm 0 0 0 1 =+ 2
            harm 0 0 0 1 ! FULL
            told 4 = 10
            whose 9 = 1
            whose 10 ! UNKNOWN; whose -1 ! UNKNOWN
            part 10 0 ! UNKNOWN; part -1 0 ! UNKNOWN; part 0 2 ! UNKNOWN; part 0 -1 ! UNKNOWN
            """);
    }

    private static void canBe() {
        on("if it is no farther than a thirtieth of its DEPTH, cut, from there", """
            pit 50 50 0 0 29; pit 50 50 0 0 30; pit 50 50 0 0 59; pit 50 50 0 0 60; pit 50 50 0 0 1000
            pit 50 50 0 0 989; pit 50 50 0 0 1
            harm 50 50 0 0 = 0; harm 51 50 0 0 = 1; harm 49 50 0 0 = 2; harm 50 48 0 0 = 3; harm 49 51 0 0 = 4
            harm 34 34 0 0 = 5; harm 67 66 0 0 = 6; harm 67 67 0 0 = 7
            whose 0 = 127; whose 1 = 62; whose 2 = 62; whose 3 = 56; whose 4 = 56; whose 5 = 48; whose 6 = 16
            whose 7 = 0
            ---
            8 x pit 0 0 0 0 1; harm 0 0 0 0
            whose 0 = 255
            """);
        on("it worked (from a year till another one, both told, both counted; 0 and 99 at first) in that year", """
            pit 0 0 0 0 1; set 6 0; harm 0 0 0 0; harm 0 0 99 0; harm 0 0 40 0
            whose 0 = 1; whose 1 = 1; whose 2 = 1
            worked 0 40 40 = 1
            whose 0 = 0; whose 1 = 0; whose 2 = 1
            worked 0 41 99 = 1
            whose 2 = 0; whose 1 = 1
            worked 0 0 39 = 1
            whose 2 = 0; whose 0 = 1
            worked 0 39 41 = 1
            whose 2 = 1
            worked 0 99 99 = 1
            whose 1 = 1
            worked 0 0 0 = 1
            whose 0 = 1; whose 1 = 0
            """);
        on("or one of the SPAN (0 to 50; 10 at first) years ahead of it", """
            pit 0 0 0 0 1; harm 0 0 40 0; harm 0 0 99 0; harm 0 0 5 0; harm 0 0 0 0; worked 0 0 30
            whose 0 = 1
            worked 0 30 30
            whose 0 = 1
            worked 0 0 29
            whose 0 = 0
            worked 0 41 41
            whose 0 = 0
            worked 0 0 0
            whose 2 = 1; whose 3 = 1
            worked 0 1 50
            whose 3 = 0
            set 6 0 = 10
            worked 0 0 39
            whose 0 = 0
            set 6 1 = 0
            whose 0 = 1
            set 6 50 = 1
            worked 0 0 49
            whose 1 = 1
            worked 0 0 48
            whose 1 = 0
            set 6 -1 ! OUTSIDE; set 6 51 ! OUTSIDE
            """);
        on("UNKNOWN; OUTSIDE: 0 to 99, from not above till.", """
            pit 0 0 0 0 1; set 6 0; harm 0 0 20 0; harm 0 0 21 0; harm 0 0 22 0; harm 0 0 0 0; harm 0 0 99 0
            worked 0 21 21 = 1
            worked 0 22 21 ! OUTSIDE; worked 0 -1 99 ! OUTSIDE; worked 0 0 100 ! OUTSIDE
            worked 0 100 100 ! OUTSIDE; worked 0 -1 -1 ! OUTSIDE; worked 0 99 0 ! OUTSIDE
            worked 1 0 99 ! UNKNOWN; worked -1 0 99 ! UNKNOWN
            worked 0 0 99 = 1
            whose 4 = 1
            close 0
            worked 0 0 98 = 1
            whose 4 = 0
            """);
    }

    private static void parts() {
        on("PARTS of the sum by weights TONS and 1, cut; what is left over goes to the first that CAN BE it.", """
            pit 50 50 1000 0 1; pit 0 0 0 0 1; pit 0 0 1 0 1; pit 0 0 999 0 1; harm 0 0 0 100000
            part 0 0 = 0; part 0 1 = 101; part 0 2 = 199; part 0 3 = 99700
            harm 0 0 0 0
            part 1 1 = 0; part 1 2 = 0; part 1 3 = 0
            harm 0 0 0 1
            part 2 1 = 1; part 2 2 = 0; part 2 3 = 0
            harm 0 0 0 1003
            part 3 1 = 1; part 3 2 = 2; part 3 3 = 1000
            harm 99 99 0 100000
            part 4 0 = 0; part 4 1 = 0
            harm 50 50 0 100000
            part 5 0 = 100000; part 5 1 = 0
            ---
            8 x pit 0 0 1000 0 1; harm 0 0 0 100000; harm 0 0 0 99999
            part 0 0 = 12500; part 0 7 = 12500; part 1 0 = 12506; part 1 7 = 12499
            """);
    }

    private static void workOfTowns() {
        on("MEN whose home it is, and who are at PITS.", """
            8 x pit 0 0 0 0 1; text k; rule 0; man 20 0 0 5 7 true; man 20 0 0 5 7 false; man 59 0 0 5 0 false
            man 20 0 0 5 0 false; man 20 0 0 5 6 false; man 20 0 0 4 6 false
            work 5 0 = 5; work 5 1 = 5; work 5 2 = 193; work 0 0 = 0; work 0 1 = 0; work 0 2 = 0
            close 7 = 1
            work 5 0 = 3; work 5 1 = 5; work 5 2 = 65
            year = 1
            work 5 0 = 2; work 5 1 = 5
            leave 3
            work 5 0 = 1; work 5 1 = 4; work 5 2 = 64
            work 6 0 ! UNKNOWN; work -1 0 ! UNKNOWN; work 5 3 ! OUTSIDE; work 5 -1 ! OUTSIDE
            """);
        on("LONE: TOWNS that have WORK at one PIT alone.", """
            lone = 0
            8 x pit 0 0 0 0 1
            lone = 0
            man 20 0 0 0 0 false; man 20 0 0 1 1 false; man 20 0 0 2 2 false; man 20 0 0 3 3 false
            man 20 0 0 4 4 false; man 20 0 0 5 7 false
            lone = 63
            man 20 0 0 5 7 false
            lone = 63
            man 20 0 0 5 0 false
            lone = 31
            leave 7
            lone = 63
            close 7
            lone = 31
            leave 0
            lone = 30
            """);
    }

    // ---- promises: what is there at first, and what each call takes

    private static void promises() {
        aNewObject();
        whatIsAsked();
        leaving();
        settings();
        rulesOfSigns();
        moves();
        toldNumbers();
    }

    private static void aNewObject() {
        on("No PITS, MEN, WAYS, RULES, HARMS; all numbers as at first.", """
            told 0 = 0; told 1 = 0; told 2 = 0; told 3 = 0; told 4 = 0; told 5 = 0; told 6 = 0; told 7 = 0
            told 8 = 0; told 10 = 0; told 11 = 0; told 12 = 0; told 13 = 0; told 14 = 0; told 20 = 60
            told 21 = 30; told 22 = 0; told 23 = 0; told 24 = 8; told 25 = 3; told 26 = 10
            about 0 0 ! UNKNOWN
            man 20 0 0 0 0 false ! UNKNOWN
            ofMan 0 0 ! UNKNOWN
            leave 0 ! UNKNOWN
            posts 0 0 0 ! UNKNOWN
            year = 0
            wipe = 0
            fault = 0
            rule 0 ! NO
            worth 0 0 ! -2000001
            move 0 -1 ! UNKNOWN
            close 0 ! UNKNOWN
            inflow 0 0 ! UNKNOWN
            pump 0 true ! UNKNOWN
            way 0 1 0 ! UNKNOWN
            months 1 = 0
            threat 0 0 ! UNKNOWN
            plan 0 0 = 1
            best 0 = 0
            vote 0 0 ! UNKNOWN
            worked 0 0 99 ! UNKNOWN
            whose 0 ! UNKNOWN
            part 0 0 ! UNKNOWN
            work 0 0 = 0
            lone = 0
            ---
            harm 0 0 0 0 = 0
            whose 0 = 0
            part 0 0 ! UNKNOWN
            """);
    }

    private static void whatIsAsked() {
        on("Of a PIT: 0, 1 its place, 2 TONS, 3 COST, 4 DEPTH, 5 whether OPEN (1, 0), 6 MEN at it, 7 LEVEL", """
            pit 11 12 13 14 15
            about 0 0 = 11; about 0 1 = 12; about 0 2 = 13; about 0 3 = 14; about 0 4 = 15; about 0 5 = 1
            about 0 6 = 0; about 0 7 = 0; about 0 8 = NONE; about 0 9 = 1; about 0 10 = 0; about 0 11 = 0
            about 0 12 = 0
            about 0 -1 ! OUTSIDE; about 0 13 ! OUTSIDE; about -1 0 ! UNKNOWN; about 1 0 ! UNKNOWN
            24 x man 20 0 0 0 0 false
            about 0 6 = 24
            """);
        on("Of a MAN: 0 AGE, 1 TRADE, 2 YEARS, 3 TOWN, 4 PIT (NONE), 5 KIN (1, 0), 6 what he is", """
            pit 0 0 0 0 1; pit 0 0 0 0 1; man 21 2 3 4 1 true
            ofMan 0 0 = 21; ofMan 0 1 = 2; ofMan 0 2 = 3; ofMan 0 3 = 4; ofMan 0 4 = 1; ofMan 0 5 = 1
            ofMan 0 6 = 0
            ofMan 0 -1 ! OUTSIDE; ofMan 0 7 ! OUTSIDE; ofMan -1 0 ! UNKNOWN; ofMan 1 0 ! UNKNOWN
            man 22 0 0 0 1 false
            ofMan 1 5 = 0
            close 1 = 2
            ofMan 0 4 = NONE; ofMan 0 6 = 3
            """);
    }

    private static void leaving() {
        on("A MAN is GONE: what he was (0 to 3). UNKNOWN; NO: he is GONE.", """
            pit 0 0 0 0 1; pit 0 0 0 0 1; text k; rule 0; man 20 0 0 0 0 false; man 20 0 0 0 1 true
            man 60 0 0 0 0 false; man 20 0 0 0 1 false
            close 1 = 1
            year = 1
            leave -1 ! UNKNOWN; leave 4 ! UNKNOWN
            leave 0 = 0; leave 1 = 1; leave 2 = 2; leave 3 = 3
            leave 0 ! NO; leave 1 ! NO; leave 2 ! NO; leave 3 ! NO
            told 14 = 4
            about 0 6 = 0
            """);
    }

    private static void settings() {
        on("0 PENSION, 1 NEAR, 2 BURDEN, 3 OWED, 4 AT ONCE, 5 N, 6 SPAN: which it was. OUTSIDE.");
        int[] first = {60, 30, 0, 0, 8, 3, 10};
        int[] least = {50, 0, 0, 0, 1, 1, 0};
        int[] most = {70, 200, 10000, 5000, 8, 5, 50};
        for (int i = 0; i < first.length; i++) {
            String set = "set " + i + " ";
            String told = "told " + (20 + i) + " = ";
            runs(set + (least[i] - 1) + " ! OUTSIDE\n" + set + (most[i] + 1) + " ! OUTSIDE\n" + told + first[i] + "\n"
                + set + least[i] + " = " + first[i] + "\n" + told + least[i] + "\n"
                + set + most[i] + " = " + least[i] + "\n" + told + most[i] + "\n"
                + set + most[i] + " = " + most[i] + "\n");
        }
        runs("set -1 8 ! OUTSIDE\nset 7 8 ! OUTSIDE");
    }

    private static void rulesOfSigns() {
        on("A RULE (0 to 2) of the signs (they are empty then): 1 (0: there was one).", """
            pit 0 0 0 0 1; man 20 1 5 0 0 false; text a
            rule 0 = 1
            told 2 = 0
            wipe = 0
            rule 0 ! NO
            text y
            rule 2 = 1
            text t
            rule -1 ! OUTSIDE; rule 3 ! OUTSIDE
            rule 1 = 1
            worth 0 0 = 20; worth 1 0 = 1; worth 2 0 = 5
            text a1,+
            rule 0 = 0
            worth 0 0 = 21
            text ay
            rule 0 ! NO; rule 1 ! NO
            text +
            rule 0 = 0
            worth 0 0 = 25
            text y
            rule 0 = 0
            worth 0 0 = 5
            """);
        on("Signs go: how many there were.", """
            wipe = 0
            text ab
            wipe = 2
            told 2 = 0
            fault = 0
            wipe = 0
            40 x say 97 =+ 1
            wipe = 40
            text y
            fault = NONE
            """);
        on("NONE (-2000006): there is no such RULE. UNKNOWN, OUTSIDE: the RULE (-2000001, -2000002).", """
            pit 0 0 0 0 1; man 20 0 0 0 0 false
            worth 0 0 ! -2000006; worth 2 0 ! -2000006; worth -1 0 ! -2000002; worth 3 0 ! -2000002
            worth 0 -1 ! -2000001; worth 0 1 ! -2000001; worth 3 1 ! -2000001
            text 0,1000,1000,*-
            rule 2 = 1
            worth 2 0 = -1000000
            worth 1 0 ! -2000006
            """);
    }

    private static void moves() {
        on("UNKNOWN: PIT, MAN i is not at it; STATE: it is closed; NO: more than 9 are not BRIDGED.", """
            3 x pit 0 0 0 0 1; text k; rule 0; man 20 0 0 0 0 false; man 20 0 0 0 1 false; man 20 0 0 0 0 true
            man 20 0 0 0 0 false; leave 3
            move 0 -1 = 1; move 0 -2 = 0; move 0 -3 = 0; move 0 -4 = 1
            move 0 -5 ! UNKNOWN
            move 0 0 = NONE
            move 0 1 ! UNKNOWN
            move 0 2 = NONE
            move 0 3 ! UNKNOWN; move 0 4 ! UNKNOWN; move 3 -1 ! UNKNOWN; move -1 -1 ! UNKNOWN
            posts 1 0 1
            move 0 0 = 1; move 0 2 = NONE
            close 0 = 0
            move 0 -1 ! STATE; move 0 -4 ! STATE; move 0 0 ! UNKNOWN; move 0 2 ! UNKNOWN; move 0 -5 ! UNKNOWN
            move 1 0 = NONE
            8 x man 20 0 0 0 1 false
            move 1 -1 ! NO; move 1 0 ! NO; move 1 -4 ! NO
            close 1 ! NO
            leave 0
            move 1 -1 = 9
            close 1 = 9
            """);
    }

    private static void toldNumbers() {
        on("8 OPEN PITS as bits, 10 to 14 MEN that are at PITS, BRIDGED, PENSIONED, LEFT, GONE, 20 to 26", """
            told -1 ! OUTSIDE; told 9 ! OUTSIDE; told 15 ! OUTSIDE; told 16 ! OUTSIDE; told 17 ! OUTSIDE
            told 18 ! OUTSIDE; told 19 ! OUTSIDE; told 27 ! OUTSIDE
            8 x pit 0 0 0 0 1
            told 8 = 255
            24 x man 20 0 0 0 0 false
            told 10 = 24; told 11 = 0
            """);
    }

    public static void main(String[] args) {
        terms();
        part1();
        part2();
        part3();
        part4();
        part5();
        part6();
        promises();
        System.out.println("bounds: " + sentences + " sentences, " + asked + " answers looked at, " + wrong + " wrong");
        if (wrong != 0) {
            System.exit(1);
        }
    }
}
