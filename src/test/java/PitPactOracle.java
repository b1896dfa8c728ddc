import java.util.ArrayList;
import java.util.Arrays;
import java.util.List;
import java.util.Random;

/** Long random runs against a slow model that tries every plan and every move by the document's own words. */
public final class PitPactOracle {
    private static final int RUNS = 400, CALLS = 512, BIG_PLANS = 12, BIG_MOVES = 400;
    private static int wrong = 0;
    private static long asked = 0;

    /** The document, as plainly as it can be written; nothing here is quick. */
    private static final class Model {
        int[][] town = new int[6][2];
        List<int[]> pit = new ArrayList<>();      // x y tons cost depth open inflow level drowned pump from till
        List<int[]> posts = new ArrayList<>();
        List<int[]> man = new ArrayList<>();      // age trade years town pit kin what
        List<int[]> way = new ArrayList<>();
        List<int[]> harm = new ArrayList<>();
        int[] setting = {60, 30, 0, 0, 8, 3, 10};
        int[][] price = new int[3][5];
        String signs = "";
        String[] rule = new String[3];
        int month, pumped, spilt;

        Model() {
            for (int[] row : price) {
                Arrays.fill(row, 100);
            }
        }

        boolean isPit(int p) {
            return p >= 0 && p < pit.size();
        }

        boolean isOpen(int p) {
            return pit.get(p)[5] == 1;
        }

        static boolean in(int v, int a, int b) {
            return a <= v && v <= b;
        }

        static int far(int[] a, int[] b) {
            return Math.abs(a[0] - b[0]) + Math.abs(a[1] - b[1]);
        }

        // ---- rules

        int fault() {
            int on = 0;
            int i = 0;
            while (i < signs.length()) {
                char c = signs.charAt(i);
                if (Character.isDigit(c)) {
                    if (on == 5) {
                        return i;
                    }
                    int j = i;
                    while (j < signs.length() && Character.isDigit(signs.charAt(j))) {
                        j++;
                    }
                    if (j - i > 4) {
                        return i + 4;
                    }
                    if (j == signs.length()) {
                        return j;
                    }
                    if (signs.charAt(j) != ',') {
                        return j;
                    }
                    on++;
                    i = j + 1;
                    continue;
                }
                if ("aytkf".indexOf(c) >= 0) {
                    on++;
                } else if ("+-*<>=&|".indexOf(c) >= 0 && on >= 2) {
                    on--;
                } else if (c != '!' || on == 0) {
                    return i;
                }
                if (on > 5) {
                    return i;
                }
                i++;
            }
            return on == 1 ? -6 : signs.length();
        }

        int value(String text, int m) {
            int[] of = man.get(m);
            java.util.ArrayDeque<Long> pile = new java.util.ArrayDeque<>();
            for (String token : text.split("(?<=,)|(?<=[^0-9])")) {
                long v;
                switch (token.charAt(0)) {
                    case 'a': v = of[0]; break;
                    case 'y': v = of[2]; break;
                    case 't': v = of[1]; break;
                    case 'k': v = of[5]; break;
                    case 'f': v = of[4] < 0 ? 0 : far(town[of[3]], pit.get(of[4])); break;
                    case '!': v = pile.pop() == 0 ? 1 : 0; break;
                    default:
                        if (token.endsWith(",")) {
                            v = Long.parseLong(token.substring(0, token.length() - 1));
                        } else {
                            long b = pile.pop();
                            long a = pile.pop();
                            v = joined(token.charAt(0), a, b);
                        }
                }
                pile.push(Math.min(1000000L, Math.max(-1000000L, v)));
            }
            return (int) (long) pile.pop();
        }

        static long joined(char c, long a, long b) {
            switch (c) {
                case '+': return a + b;
                case '-': return a - b;
                case '*': return a * b;
                case '<': return a < b ? 1 : 0;
                case '>': return a > b ? 1 : 0;
                case '=': return a == b ? 1 : 0;
                case '&': return a != 0 && b != 0 ? 1 : 0;
                default: return a != 0 || b != 0 ? 1 : 0;
            }
        }

        boolean holds(int which, int m) {
            return rule[which] != null && value(rule[which], m) != 0;
        }

        // ---- the move: every set of slots that is taken, from the last man to the first

        List<Integer> movers;
        List<Integer> bridged;
        List<int[]> slots;
        int[] chosen;
        int key;

        boolean workOut(int p) {
            movers = new ArrayList<>();
            bridged = new ArrayList<>();
            for (int m = 0; m < man.size(); m++) {
                if (man.get(m)[4] == p) {
                    (holds(0, m) ? bridged : movers).add(m);
                }
            }
            if (movers.size() > 9) {
                return false;
            }
            slots = new ArrayList<>();
            for (int q = 0; q < pit.size(); q++) {
                for (int t = 0; t < 3 && q != p && isOpen(q); t++) {
                    for (int i = 0; i < posts.get(q)[t] && slots.size() < 12; i++) {
                        slots.add(new int[] {q, t});
                    }
                }
            }
            tryAllMoves();
            return true;
        }

        int keyOf(int j, int s) {
            if (s == slots.size()) {
                return 1000000;
            }
            int m = movers.get(j);
            if (slots.get(s)[1] != man.get(m)[1]) {
                return -1;
            }
            int d = far(town[man.get(m)[3]], pit.get(slots.get(s)[0]));
            if (d <= setting[1]) {
                return d;
            }
            return holds(1, m) ? -1 : d + 10000;
        }

        void tryAllMoves() {
            int n = movers.size();
            int k = slots.size();
            int[][] least = new int[n + 1][1 << k];
            int[][] pick = new int[n][1 << k];
            for (int j = n - 1; j >= 0; j--) {
                int[] keys = new int[k + 1];
                for (int s = 0; s <= k; s++) {
                    keys[s] = keyOf(j, s);
                }
                for (int mask = 0; mask < 1 << k; mask++) {
                    least[j][mask] = Integer.MAX_VALUE;
                    for (int s = 0; s <= k; s++) {
                        boolean free = s == k || (mask >> s & 1) == 0;
                        if (free && keys[s] >= 0) {
                            int sum = keys[s] + least[j + 1][s == k ? mask : mask | 1 << s];
                            if (sum < least[j][mask]) {
                                least[j][mask] = sum;
                                pick[j][mask] = s;
                            }
                        }
                    }
                }
            }
            chosen = new int[n];
            key = least[0][0];
            int mask = 0;
            for (int j = 0; j < n; j++) {
                chosen[j] = pick[j][mask];
                mask |= chosen[j] == k ? 0 : 1 << chosen[j];
            }
        }

        int newPit(int m) {
            int j = movers.indexOf(m);
            return j < 0 || chosen[j] == slots.size() ? -6 : slots.get(chosen[j])[0];
        }

        int close(int p) {
            for (int m : bridged) {
                man.get(m)[4] = -6;
                man.get(m)[6] = 1;
            }
            for (int m : movers) {
                man.get(m)[4] = newPit(m);
                if (newPit(m) == -6) {
                    man.get(m)[6] = 3;
                } else {
                    posts.get(newPit(m))[man.get(m)[1]]--;
                }
            }
            pit.get(p)[5] = 0;
            Arrays.fill(posts.get(p), 0);
            return key / 1000000;
        }

        // ---- water

        int oneMonth() {
            for (int[] p : pit) {
                p[7] += p[6];
            }
            for (int[] w : way) {
                for (int side = 0; side < 2; side++) {
                    int[] from = pit.get(w[side]);
                    int[] to = pit.get(w[1 - side]);
                    if (from[7] > w[2] && from[7] > to[7]) {
                        int runs = (from[7] - Math.max(w[2], to[7])) / 2;
                        from[7] -= runs;
                        to[7] += runs;
                        break;
                    }
                }
            }
            int drown = 0;
            for (int[] p : pit) {
                if (p[9] == 1) {
                    pumped += p[7];
                    p[7] = 0;
                }
                if (p[7] > p[4]) {
                    spilt += p[7] - p[4];
                    p[7] = p[4];
                }
                if (p[8] == -6 && 3 * p[7] > p[4]) {
                    p[8] = month;
                    drown++;
                }
            }
            month++;
            return drown;
        }

        int threat(int p, int stopped) {
            if (pit.get(p)[8] != -6) {
                return -6;
            }
            Model copy = new Model();
            for (int[] q : pit) {
                copy.pit.add(q.clone());
            }
            copy.way.addAll(way);
            copy.pit.get(stopped)[9] = 0;
            for (int i = 0; i < 240; i++) {
                copy.oneMonth();
                if (copy.pit.get(p)[8] != -6) {
                    return i;
                }
            }
            return -6;
        }

        // ---- plans

        int[] yearsOf(int digits) {
            String text = Integer.toString(digits);
            if (digits < 0 || digits > 0 && text.length() > pit.size()) {
                return null;
            }
            while (text.length() < pit.size()) {
                text = "0" + text;
            }
            int[] years = new int[pit.size()];
            for (int p = 0; p < years.length; p++) {
                years[p] = text.charAt(p) - '0';
                if (years[p] > 5 || !isOpen(p) && years[p] != 0) {
                    return null;
                }
            }
            return years;
        }

        boolean isKept(int[] years) {
            for (int t = 0; t < setting[5]; t++) {
                int tons = 0;
                int closing = 0;
                for (int p = 0; p < years.length; p++) {
                    if (isOpen(p)) {
                        tons += years[p] > t ? pit.get(p)[2] : 0;
                        closing += years[p] == t ? 1 : 0;
                    }
                }
                if (tons < setting[3] || closing > setting[4]) {
                    return false;
                }
            }
            return true;
        }

        int cost(int[] years, int row) {
            int sum = 0;
            for (int t = 0; t < setting[5]; t++) {
                for (int p = 0; p < years.length; p++) {
                    int[] of = pit.get(p);
                    sum += years[p] <= t ? setting[2] : Math.max(0, of[2] * (of[3] - price[row][t]));
                }
            }
            return sum;
        }

        int worst(int[] years) {
            return Math.max(cost(years, 0), Math.max(cost(years, 1), cost(years, 2)));
        }

        int worstRow(int[] years) {
            int worst = worst(years);
            return cost(years, 0) == worst ? 0 : cost(years, 1) == worst ? 1 : 2;
        }

        int best(int what) {
            int bestWorst = Integer.MAX_VALUE;
            int bestDigits = -1;
            int[] years = new int[pit.size()];
            boolean more = true;
            while (more) {
                if (isKept(years)) {
                    int worst = worst(years);
                    if (worst < bestWorst) {
                        bestWorst = worst;
                        bestDigits = 0;
                        for (int y : years) {
                            bestDigits = bestDigits * 10 + y;
                        }
                    }
                }
                more = nextYears(years);
            }
            return bestDigits < 0 ? -5 : what == 0 ? bestDigits : bestWorst;
        }

        boolean nextYears(int[] years) {
            for (int p = years.length - 1; p >= 0; p--) {
                if (isOpen(p) && years[p] < 5) {
                    years[p]++;
                    return true;
                }
                years[p] = 0;
            }
            return false;
        }

        // ---- harms

        boolean canBe(int h, int p) {
            int[] of = pit.get(p);
            int[] what = harm.get(h);
            boolean worked = false;
            for (int y = what[2] - setting[6]; y <= what[2]; y++) {
                worked |= of[10] <= y && y <= of[11];
            }
            return worked && far(of, what) <= of[4] / 30;
        }

        int part(int h, int p) {
            long weights = 0;
            for (int q = 0; q < pit.size(); q++) {
                weights += canBe(h, q) ? pit.get(q)[2] + 1 : 0;
            }
            int first = -1;
            long[] parts = new long[pit.size()];
            long over = harm.get(h)[3];
            for (int q = 0; q < pit.size(); q++) {
                if (canBe(h, q)) {
                    first = first < 0 ? q : first;
                    parts[q] = harm.get(h)[3] * (pit.get(q)[2] + 1L) / weights;
                    over -= parts[q];
                }
            }
            if (first >= 0) {
                parts[first] += over;
            }
            return (int) parts[p];
        }

        int pitsOf(int t) {
            int bits = 0;
            for (int[] m : man) {
                bits |= m[3] == t && m[6] == 0 ? 1 << m[4] : 0;
            }
            return bits;
        }
    }

    private static Random random;
    private static Model model;
    private static PitPact pact;
    private static int run;
    private static final List<String> log = new ArrayList<>();

    private static void due(String call, int got, int want) {
        asked++;
        log.add(call + " = " + got);
        if (got != want) {
            wrong++;
            if (wrong <= 5) {
                System.out.println("run " + run + ": " + call + " answered " + got + ", due is " + want);
                int from = Math.max(0, log.size() - 12);
                System.out.println("    behind " + log.subList(from, log.size() - 1));
            }
        }
    }

    /** A number within the bounds, seldom one just outside of them. */
    private static int pick(int least, int most) {
        int dice = random.nextInt(40);
        if (dice == 0) {
            return least - 1;
        }
        if (dice == 1) {
            return most + 1;
        }
        if (dice < 5) {
            return dice % 2 == 0 ? least : most;
        }
        return least + random.nextInt(Math.max(1, most - least + 1));
    }

    private static int anyPit() {
        return pick(0, model.pit.size() - 1);
    }

    private static int anyMan() {
        return pick(0, model.man.size() - 1);
    }

    private static boolean in(int v, int a, int b) {
        return Model.in(v, a, b);
    }

    private static void town() {
        int t = pick(0, 5);
        int x = pick(0, 99);
        int y = pick(0, 99);
        int want = !in(t, 0, 5) ? -1 : !in(x, 0, 99) || !in(y, 0, 99) ? -2 : 1;
        if (want == 1) {
            model.town[t] = new int[] {x, y};
        }
        due("town(" + t + ", " + x + ", " + y + ")", pact.town(t, x, y), want);
    }

    private static void pit(int mostPits) {
        if (model.pit.size() >= mostPits && mostPits < 8) {
            return;
        }
        int x = pick(0, 99);
        int y = pick(0, 99);
        int tons = random.nextInt(3) == 0 ? 100 * random.nextInt(4) : pick(0, 1000);
        int cost = pick(0, 200);
        int depth = pick(1, 1000);
        boolean fine = in(x, 0, 99) && in(y, 0, 99) && in(tons, 0, 1000) && in(cost, 0, 200) && in(depth, 1, 1000);
        int want = !fine ? -2 : model.pit.size() >= 8 ? -4 : model.pit.size();
        if (want >= 0) {
            model.pit.add(new int[] {x, y, tons, cost, depth, 1, 0, 0, -6, 1, 0, 99});
            model.posts.add(new int[3]);
        }
        due("pit(" + x + ", " + y + ", " + tons + ", " + cost + ", " + depth + ")",
            pact.pit(x, y, tons, cost, depth), want);
    }

    private static void about() {
        int p = anyPit();
        int what = pick(0, 12);
        int want = -2;
        if (!model.isPit(p)) {
            want = -1;
        } else if (in(what, 0, 5)) {
            want = model.pit.get(p)[what];
        } else if (what == 6) {
            want = (int) model.man.stream().filter(m -> m[4] == p).count();
        } else if (in(what, 7, 9)) {
            want = model.pit.get(p)[what];
        } else if (in(what, 10, 12)) {
            want = model.posts.get(p)[what - 10];
        }
        due("about(" + p + ", " + what + ")", pact.about(p, what), want);
    }

    private static void man() {
        int[] of = {pick(14, 70), pick(0, 2), pick(0, 50), pick(0, 5), anyPit(), random.nextInt(2), 0};
        if (random.nextInt(2) == 0) {
            of[4] = 0;
        }
        int want = model.man.size();
        if (!in(of[3], 0, 5) || !model.isPit(of[4])) {
            want = -1;
        } else if (!in(of[0], 14, 70) || !in(of[1], 0, 2) || !in(of[2], 0, 50)) {
            want = -2;
        } else if (!model.isOpen(of[4])) {
            want = -3;
        } else if (want >= 24) {
            want = -4;
        } else {
            model.man.add(of);
        }
        due("man" + Arrays.toString(of), pact.man(of[0], of[1], of[2], of[3], of[4], of[5] == 1), want);
    }

    private static void ofMan() {
        int m = anyMan();
        int what = pick(0, 6);
        int want = !in(m, 0, model.man.size() - 1) ? -1 : !in(what, 0, 6) ? -2 : model.man.get(m)[what];
        due("ofMan(" + m + ", " + what + ")", pact.ofMan(m, what), want);
    }

    private static void leave() {
        int m = anyMan();
        int want = !in(m, 0, model.man.size() - 1) ? -1 : model.man.get(m)[6] == 4 ? -5 : model.man.get(m)[6];
        if (want >= 0) {
            model.man.get(m)[6] = 4;
            model.man.get(m)[4] = -6;
        }
        due("leave(" + m + ")", pact.leave(m), want);
    }

    private static void posts() {
        int p = anyPit();
        int t = pick(0, 2);
        int n = random.nextInt(3) == 0 ? pick(0, 9) : random.nextInt(3);
        int want;
        if (!model.isPit(p)) {
            want = -1;
        } else if (!in(t, 0, 2) || !in(n, 0, 9)) {
            want = -2;
        } else if (!model.isOpen(p)) {
            want = -3;
        } else {
            want = model.posts.get(p)[t];
            model.posts.get(p)[t] = n;
        }
        due("posts(" + p + ", " + t + ", " + n + ")", pact.posts(p, t, n), want);
    }

    private static void set() {
        int[] least = {50, 0, 0, 0, 1, 1, 0};
        int[] most = {70, 200, 10000, 5000, 8, 5, 50};
        int which = pick(0, 6);
        int v = in(which, 0, 6) ? pick(least[which], most[which]) : 1;
        if (which == 3 && random.nextBoolean()) {
            v = random.nextInt(1500);
        }
        int want = -2;
        if (in(which, 0, 6) && in(v, least[which], most[which])) {
            want = model.setting[which];
            model.setting[which] = v;
        }
        due("set(" + which + ", " + v + ")", pact.set(which, v), want);
    }

    private static void year() {
        int want = 0;
        for (int[] m : model.man) {
            if (m[6] != 4) {
                m[0] = Math.min(70, m[0] + 1);
                m[2] = m[6] == 0 ? Math.min(50, m[2] + 1) : m[2];
                if (m[6] != 2 && m[0] >= model.setting[0]) {
                    m[6] = 2;
                    m[4] = -6;
                    want++;
                }
            }
        }
        due("year()", pact.year(), want);
    }

    private static String expression(int depth) {
        int dice = random.nextInt(depth <= 0 ? 4 : 9);
        if (dice < 2) {
            return "" + "aytkf".charAt(random.nextInt(5));
        }
        if (dice < 4) {
            int[] bounds = {3, 60, 10000};
            return random.nextInt(bounds[random.nextInt(3)]) + ",";
        }
        if (dice == 4) {
            return expression(depth - 1) + "!";
        }
        return expression(depth - 1) + expression(depth - 1) + "+-*<>=&|".charAt(random.nextInt(8));
    }

    /** Mostly laid and seldom taken, so that a sixth on the pile is often begun. */
    private static String heap() {
        StringBuilder text = new StringBuilder();
        for (int i = 3 + random.nextInt(6); i > 0; i--) {
            text.append(expression(random.nextInt(6) == 0 ? 1 : 0));
        }
        String tail = "0123456789,+!a";
        for (int i = random.nextInt(6); i > 0; i--) {
            text.append(tail.charAt(random.nextInt(tail.length())));
        }
        return text.toString();
    }

    private static void sayText() {
        String text = random.nextInt(6) == 0 ? heap() : expression(3);
        if (random.nextInt(3) == 0) {
            StringBuilder spoilt = new StringBuilder(text);
            String any = "aytkf0123456789,+-*<>=&|!bz";
            spoilt.insert(random.nextInt(text.length() + 1), any.charAt(random.nextInt(any.length())));
            text = spoilt.toString();
        }
        for (int i = 0; i < text.length(); i++) {
            say(text.charAt(i));
        }
        due("fault() of " + model.signs, pact.fault(), model.fault());
    }

    private static void say(int sign) {
        int want = !in(sign, 33, 126) ? -2 : model.signs.length() >= 40 ? -4 : model.signs.length() + 1;
        if (want > 0) {
            model.signs += (char) sign;
        }
        due("say(" + sign + ")", pact.say(sign), want);
    }

    private static void wipe() {
        int want = model.signs.length();
        model.signs = "";
        due("wipe()", pact.wipe(), want);
    }

    private static void rule() {
        int which = pick(0, 2);
        int want = !in(which, 0, 2) ? -2 : model.fault() != -6 ? -5 : model.rule[which] == null ? 1 : 0;
        if (want >= 0) {
            model.rule[which] = model.signs;
            model.signs = "";
        }
        due("rule(" + which + ")", pact.rule(which), want);
    }

    private static void worth() {
        int which = pick(0, 2);
        int m = anyMan();
        int want;
        if (!in(m, 0, model.man.size() - 1)) {
            want = -2000001;
        } else if (!in(which, 0, 2)) {
            want = -2000002;
        } else {
            want = model.rule[which] == null ? -2000006 : model.value(model.rule[which], m);
        }
        due("worth(" + which + ", " + m + ")", pact.worth(which, m), want);
    }

    private static void move() {
        int p = anyPit();
        int i = random.nextBoolean() ? pick(-4, -1) : anyMan();
        int want;
        boolean asksMan = i >= 0;
        boolean isAt = in(i, 0, model.man.size() - 1) && model.man.get(i)[4] == p;
        if (!model.isPit(p) || i < -4 || asksMan && !isAt) {
            want = -1;
        } else if (!model.isOpen(p)) {
            want = -3;
        } else if (!model.workOut(p)) {
            want = -5;
        } else {
            int[] sums = {model.key / 1000000, model.key % 1000000 / 10000, model.key % 10000, model.bridged.size()};
            want = asksMan ? model.newPit(i) : sums[-1 - i];
        }
        due("move(" + p + ", " + i + ")", pact.move(p, i), want);
    }

    private static void close() {
        int p = anyPit();
        int want;
        if (!model.isPit(p)) {
            want = -1;
        } else if (!model.isOpen(p)) {
            want = -3;
        } else {
            want = model.workOut(p) ? model.close(p) : -5;
        }
        due("close(" + p + ")", pact.close(p), want);
    }

    private static void inflow() {
        int p = anyPit();
        int v = random.nextBoolean() ? pick(0, 100) : random.nextInt(8);
        int want = !model.isPit(p) ? -1 : !in(v, 0, 100) ? -2 : model.pit.get(p)[6];
        if (want >= 0) {
            model.pit.get(p)[6] = v;
        }
        due("inflow(" + p + ", " + v + ")", pact.inflow(p, v), want);
    }

    private static void pump() {
        int p = anyPit();
        boolean runs = random.nextBoolean();
        int want = !model.isPit(p) ? -1 : model.pit.get(p)[9];
        if (want >= 0) {
            model.pit.get(p)[9] = runs ? 1 : 0;
        }
        due("pump(" + p + ", " + runs + ")", pact.pump(p, runs), want);
    }

    private static void way() {
        int a = anyPit();
        int b = anyPit();
        int h = random.nextBoolean() ? pick(0, 1000) : random.nextInt(50);
        int want = model.way.size();
        if (!model.isPit(a) || !model.isPit(b) || a == b) {
            want = -1;
        } else if (!in(h, 0, 1000)) {
            want = -2;
        } else if (want >= 12) {
            want = -4;
        } else {
            model.way.add(new int[] {a, b, h});
        }
        due("way(" + a + ", " + b + ", " + h + ")", pact.way(a, b, h), want);
    }

    private static void months() {
        int n = random.nextInt(4) == 0 ? pick(1, 240) : pick(1, 9);
        int want = n < 1 || n > 240 ? -2 : 0;
        for (int i = 0; i < n && want >= 0; i++) {
            want += model.oneMonth();
        }
        due("months(" + n + ")", pact.months(n), want);
    }

    private static void threat() {
        int p = anyPit();
        int s = anyPit();
        int want = !model.isPit(p) || !model.isPit(s) ? -1 : model.threat(p, s);
        due("threat(" + p + ", " + s + ")", pact.threat(p, s), want);
    }

    private static void price() {
        int row = pick(0, 2);
        int year = pick(0, 4);
        int v = pick(0, 200);
        int want = !in(row, 0, 2) || !in(year, 0, 4) ? -1 : !in(v, 0, 200) ? -2 : model.price[row][year];
        if (want >= 0) {
            model.price[row][year] = v;
        }
        due("price(" + row + ", " + year + ", " + v + ")", pact.price(row, year, v), want);
    }

    private static void plan() {
        int digits = 0;
        for (int p = 0; p < model.pit.size(); p++) {
            digits = digits * 10 + (model.isOpen(p) ? random.nextInt(random.nextInt(9) == 0 ? 7 : 6) : 0);
        }
        if (random.nextInt(10) == 0) {
            digits = random.nextInt();
        }
        int what = pick(0, 2);
        int[] years = model.yearsOf(digits);
        int want = -2;
        if (years != null && in(what, 0, 2)) {
            want = what == 0 ? (model.isKept(years) ? 1 : 0) : what == 1 ? model.worst(years) : model.worstRow(years);
        }
        due("plan(" + digits + ", " + what + ")", pact.plan(digits, what), want);
    }

    private static void best() {
        int what = pick(0, 1);
        int want = !in(what, 0, 1) ? -2 : model.best(what);
        due("best(" + what + ")", pact.best(what), want);
    }

    private static void vote() {
        int p = anyPit();
        int what = pick(0, 1);
        int want;
        if (!model.isPit(p)) {
            want = -1;
        } else if (!in(what, 0, 1)) {
            want = -2;
        } else if (!model.isOpen(p)) {
            want = -3;
        } else {
            int yes = 0;
            int no = 0;
            for (int m = 0; m < model.man.size(); m++) {
                if (model.man.get(m)[4] == p) {
                    yes += model.holds(2, m) ? 1 : 0;
                    no += model.holds(2, m) ? 0 : 1;
                }
            }
            want = what == 0 ? yes : yes > no ? 1 : 0;
        }
        due("vote(" + p + ", " + what + ")", pact.vote(p, what), want);
    }

    private static void worked() {
        int p = anyPit();
        int from = pick(0, 99);
        int till = random.nextInt(3) == 0 ? pick(0, 99) : Math.min(99, from + random.nextInt(20));
        int want = !model.isPit(p) ? -1 : from < 0 || till > 99 || from > till ? -2 : 1;
        if (want == 1) {
            model.pit.get(p)[10] = from;
            model.pit.get(p)[11] = till;
        }
        due("worked(" + p + ", " + from + ", " + till + ")", pact.worked(p, from, till), want);
    }

    private static void harm() {
        int[] of = {pick(0, 99), pick(0, 99), pick(0, 99), pick(0, 100000)};
        if (random.nextBoolean() && model.pit.size() > 0) {
            int[] near = model.pit.get(random.nextInt(model.pit.size()));
            of[0] = near[0] + random.nextInt(9) - 4;
            of[1] = near[1] + random.nextInt(9) - 4;
        }
        boolean fine = in(of[0], 0, 99) && in(of[1], 0, 99) && in(of[2], 0, 99) && in(of[3], 0, 100000);
        int want = !fine ? -2 : model.harm.size() >= 10 ? -4 : model.harm.size();
        if (want >= 0) {
            model.harm.add(of);
        }
        due("harm" + Arrays.toString(of), pact.harm(of[0], of[1], of[2], of[3]), want);
    }

    private static void whose() {
        int h = pick(0, model.harm.size() - 1);
        int want = in(h, 0, model.harm.size() - 1) ? 0 : -1;
        for (int p = 0; p < model.pit.size() && want >= 0; p++) {
            want |= model.canBe(h, p) ? 1 << p : 0;
        }
        due("whose(" + h + ")", pact.whose(h), want);
    }

    private static void part() {
        int h = pick(0, model.harm.size() - 1);
        int p = anyPit();
        int want = !in(h, 0, model.harm.size() - 1) || !model.isPit(p) ? -1 : model.part(h, p);
        due("part(" + h + ", " + p + ")", pact.part(h, p), want);
    }

    private static void work() {
        int t = pick(0, 5);
        int what = pick(0, 2);
        int want = !in(t, 0, 5) ? -1 : !in(what, 0, 2) ? -2 : 0;
        if (want == 0) {
            for (int[] m : model.man) {
                want += m[3] == t && (what == 0 && m[6] == 0 || what == 1 && m[6] != 4) ? 1 : 0;
            }
            want += what == 2 ? model.pitsOf(t) : 0;
        }
        due("work(" + t + ", " + what + ")", pact.work(t, what), want);
    }

    private static void lone() {
        int want = 0;
        for (int t = 0; t < 6; t++) {
            want |= Integer.bitCount(model.pitsOf(t)) == 1 ? 1 << t : 0;
        }
        due("lone()", pact.lone(), want);
    }

    private static void told() {
        int what = pick(0, 26);
        int[] plain = {model.pit.size(), model.man.size(), model.signs.length(), model.way.size(), model.harm.size(),
            model.month, model.pumped, model.spilt};
        int want = -2;
        if (in(what, 0, 7)) {
            want = plain[what];
        } else if (what == 8) {
            want = 0;
            for (int p = 0; p < model.pit.size(); p++) {
                want |= model.isOpen(p) ? 1 << p : 0;
            }
        } else if (in(what, 10, 14)) {
            want = (int) model.man.stream().filter(m -> m[6] == what - 10).count();
        } else if (in(what, 20, 26)) {
            want = model.setting[what - 20];
        }
        due("told(" + what + ")", pact.told(what), want);
    }

    private static void anyCall(int mostPits) {
        switch (random.nextInt(40)) {
            case 0: town(); break;
            case 1: case 2: pit(mostPits); break;
            case 3: about(); break;
            case 4: case 5: case 6: case 7: man(); break;
            case 8: ofMan(); break;
            case 9: if (random.nextInt(3) == 0) leave(); break;
            case 10: case 11: case 12: posts(); break;
            case 13: case 14: set(); break;
            case 15: if (random.nextInt(4) == 0) year(); break;
            case 16: sayText(); break;
            case 17: if (random.nextInt(4) == 0) say(pick(33, 126)); break;
            case 18: wipe(); break;
            case 19: case 20: rule(); break;
            case 21: worth(); break;
            case 22: case 23: case 24: move(); break;
            case 25: if (random.nextInt(4) == 0) close(); break;
            case 26: inflow(); break;
            case 27: pump(); break;
            case 28: way(); break;
            case 29: months(); break;
            case 30: threat(); break;
            case 31: price(); break;
            case 32: plan(); break;
            case 33: if (model.pit.size() <= 5) best(); break;
            case 34: vote(); break;
            case 35: worked(); break;
            case 36: harm(); break;
            case 37: whose(); part(); break;
            case 38: work(); lone(); break;
            default: told();
        }
    }

    private static void start(int number) {
        run = number;
        random = new Random(number);
        model = new Model();
        pact = new PitPact();
        log.clear();
    }

    private static void randomRun(int number) {
        start(number);
        int mostPits = number % 2 == 0 ? 4 + number % 5 : 8;
        while (log.size() < CALLS - 45) {
            anyCall(mostPits);
        }
    }

    /** Eight pits and five years: all 1679616 plans. */
    private static void bigPlan(int number) {
        start(number);
        while (model.pit.size() < 8) {
            pit(8);
        }
        for (int i = 0; i < 25; i++) {
            price();
        }
        model.setting[2] = random.nextInt(3) == 0 ? 0 : random.nextInt(10001);
        model.setting[3] = random.nextInt(3000);
        model.setting[4] = 1 + random.nextInt(8);
        model.setting[5] = 1 + random.nextInt(5);
        for (int i = 2; i <= 5; i++) {
            pact.set(i, model.setting[i]);
        }
        int want = model.best(0);
        due("best(0) of eight", pact.best(0), want);
        if (want >= 0) {
            due("best(1) of eight", pact.best(1), model.worst(model.yearsOf(want)));
        }
    }

    /** Nine men, up to twelve slots, many ties. */
    private static void bigMove(int number) {
        start(number);
        int grid = 1 + random.nextInt(40);
        for (int p = 0; p < 8; p++) {
            int x = random.nextInt(100) / grid * grid;
            int y = random.nextInt(100) / grid * grid;
            model.pit.add(new int[] {x, y, 1, 1, 1, 1, 0, 0, -6, 1, 0, 99});
            model.posts.add(new int[3]);
            pact.pit(x, y, 1, 1, 1);
        }
        for (int t = 0; t < 6; t++) {
            model.town[t] = new int[] {random.nextInt(100) / grid * grid, random.nextInt(100) / grid * grid};
            pact.town(t, model.town[t][0], model.town[t][1]);
        }
        int trades = 1 + random.nextInt(3);
        for (int i = 0; i < 30; i++) {
            int p = random.nextInt(8);
            int t = random.nextInt(trades);
            int n = random.nextInt(3);
            model.posts.get(p)[t] = n;
            pact.posts(p, t, n);
        }
        for (int m = 0; m < 9; m++) {
            int[] of = {30, random.nextInt(trades), 5, random.nextInt(6), 3, random.nextInt(2), 0};
            model.man.add(of);
            pact.man(of[0], of[1], of[2], of[3], of[4], of[5] == 1);
        }
        model.setting[1] = random.nextInt(120);
        pact.set(1, model.setting[1]);
        if (random.nextBoolean()) {
            model.rule[1] = "k";
            pact.say('k');
            pact.rule(1);
        }
        model.workOut(3);
        int[] sums = {model.key / 1000000, model.key % 1000000 / 10000, model.key % 10000, 0};
        for (int i = -4; i < 9; i++) {
            due("move(3, " + i + ")", pact.move(3, i), i < 0 ? sums[-1 - i] : model.newPit(i));
        }
        due("close(3)", pact.close(3), model.close(3));
        for (int p = 0; p < 8; p++) {
            for (int t = 0; t < 3; t++) {
                due("about(" + p + ", " + (10 + t) + ")", pact.about(p, 10 + t), model.posts.get(p)[t]);
            }
        }
    }

    public static void main(String[] args) {
        for (int i = 0; i < RUNS; i++) {
            randomRun(i);
        }
        for (int i = 0; i < BIG_MOVES; i++) {
            bigMove(10000 + i);
        }
        for (int i = 0; i < BIG_PLANS; i++) {
            bigPlan(20000 + i);
        }
        System.out.println("oracle: " + asked + " answers looked at, " + wrong + " wrong");
        if (wrong != 0) {
            System.exit(1);
        }
    }
}
