/**
 * Pits that close by a pact: men, rules told as texts, moves, water, plans, votes, harms, towns.
 * Names follow the words of the document (DOC.md).
 */
public final class PitPact {
    public static final int UNKNOWN = -1, OUTSIDE = -2, STATE = -3, FULL = -4, NO = -5, NONE = -6;

    private static final int TOWN_COUNT = 6, MOST_PITS = 8, MOST_MEN = 24, MOST_WAYS = 12, MOST_HARMS = 10;
    private static final int TRADES = 3, MOST_POSTS = 9, LAST_PLACE = 99, LAST_YEAR = 99;
    private static final int MOST_SIGNS = 40, MOST_DIGITS = 4, MOST_ON_PILE = 5, NUMBER_LIMIT = 1000000;
    private static final int RULES = 3, MAY_BRIDGE = 0, STAYS_NEAR = 1, VOTES_YES = 2;
    private static final int AT_PIT = 0, BRIDGED = 1, PENSIONED = 2, LEFT = 3, GONE = 4;
    private static final int MOST_MOVED = 9, MOST_SLOTS = 12;
    private static final int MOST_MONTHS = 240;
    private static final int ROWS = 3, PLAN_YEARS = 5;
    /** worth() answers refusals below all that a RULE can come to. */
    private static final int BELOW_WORTH = -2000000;

    /** What set() sets, by its number there. */
    private static final int PENSION = 0, NEAR = 1, BURDEN = 2, OWED = 3, AT_ONCE = 4, SPAN_OF_PLAN = 5, SPAN = 6;
    private static final int[] AT_FIRST = {60, 30, 0, 0, 8, 3, 10};
    private static final int[] LEAST = {50, 0, 0, 0, 1, 1, 0};
    private static final int[] MOST = {70, 200, 10000, 5000, 8, 5, 50};

    private final Place[] towns = new Place[TOWN_COUNT];
    private final Pit[] pits = new Pit[MOST_PITS];
    private final Man[] men = new Man[MOST_MEN];
    private final Harm[] harms = new Harm[MOST_HARMS];
    private final int[] settings = new int[AT_FIRST.length];
    private final Text signs = new Text();
    private final Text[] rules = new Text[RULES];
    private final Pile pile = new Pile();
    private final Removal removal = new Removal();
    private final Water water = new Water();
    /** Where threat() lets months go by that never were. */
    private final Water trial = new Water();
    private final Plans plans = new Plans();
    private int pitCount;
    private int manCount;
    private int harmCount;

    public PitPact() {
        for (int i = 0; i < TOWN_COUNT; i++) {
            towns[i] = new Place(0, 0);
        }
        for (int i = 0; i < RULES; i++) {
            rules[i] = new Text();
        }
        System.arraycopy(AT_FIRST, 0, settings, 0, AT_FIRST.length);
    }

    // ---- 1 pits, men

    public int town(int town, int x, int y) {
        if (!isTown(town)) {
            return UNKNOWN;
        }
        if (!isPlace(x, y)) {
            return OUTSIDE;
        }
        towns[town].x = x;
        towns[town].y = y;
        return 1;
    }

    public int pit(int x, int y, int tons, int cost, int depth) {
        if (!isPlace(x, y) || !isWithin(tons, 0, 1000) || !isWithin(cost, 0, 200) || !isWithin(depth, 1, 1000)) {
            return OUTSIDE;
        }
        if (pitCount >= MOST_PITS) {
            return FULL;
        }
        pits[pitCount] = new Pit(new Place(x, y), tons, cost, depth);
        water.addBasin(depth);
        return pitCount++;
    }

    public int about(int pit, int what) {
        if (!isPit(pit)) {
            return UNKNOWN;
        }
        Pit asked = pits[pit];
        switch (what) {
            case 0: return asked.place.x;
            case 1: return asked.place.y;
            case 2: return asked.tons;
            case 3: return asked.cost;
            case 4: return asked.depth;
            case 5: return asOne(asked.open);
            case 6: return menAt(pit);
            case 7: return water.level[pit];
            case 8: return water.drowned[pit];
            case 9: return asOne(water.pumps[pit]);
            case 10: case 11: case 12: return asked.posts[what - 10];
            default: return OUTSIDE;
        }
    }

    public int man(int age, int trade, int years, int town, int pit, boolean kin) {
        if (!isTown(town) || !isPit(pit)) {
            return UNKNOWN;
        }
        if (!isWithin(age, 14, 70) || !isTrade(trade) || !isWithin(years, 0, 50)) {
            return OUTSIDE;
        }
        if (!pits[pit].open) {
            return STATE;
        }
        if (manCount >= MOST_MEN) {
            return FULL;
        }
        men[manCount] = new Man(age, trade, years, town, pit, kin);
        return manCount++;
    }

    public int ofMan(int man, int what) {
        if (!isMan(man)) {
            return UNKNOWN;
        }
        Man asked = men[man];
        switch (what) {
            case 0: return asked.age;
            case 1: return asked.trade;
            case 2: return asked.years;
            case 3: return asked.town;
            case 4: return asked.pit;
            case 5: return asOne(asked.kin);
            case 6: return asked.standing;
            default: return OUTSIDE;
        }
    }

    public int leave(int man) {
        if (!isMan(man)) {
            return UNKNOWN;
        }
        int before = men[man].standing;
        if (before == GONE) {
            return NO;
        }
        men[man].quit(GONE);
        return before;
    }

    public int posts(int pit, int trade, int n) {
        if (!isPit(pit)) {
            return UNKNOWN;
        }
        if (!isTrade(trade) || !isWithin(n, 0, MOST_POSTS)) {
            return OUTSIDE;
        }
        if (!pits[pit].open) {
            return STATE;
        }
        int before = pits[pit].posts[trade];
        pits[pit].posts[trade] = n;
        return before;
    }

    public int set(int which, int v) {
        if (!isWithin(which, 0, settings.length - 1) || !isWithin(v, LEAST[which], MOST[which])) {
            return OUTSIDE;
        }
        int before = settings[which];
        settings[which] = v;
        return before;
    }

    public int year() {
        int pensioned = 0;
        for (int m = 0; m < manCount; m++) {
            if (men[m].growOlder(settings[PENSION])) {
                pensioned++;
            }
        }
        return pensioned;
    }

    // ---- 2 rules

    public int say(int sign) {
        if (!isWithin(sign, 33, 126)) {
            return OUTSIDE;
        }
        if (!signs.add(sign)) {
            return FULL;
        }
        return signs.count;
    }

    public int wipe() {
        int before = signs.count;
        signs.count = 0;
        return before;
    }

    public int fault() {
        return signs.firstFault();
    }

    public int rule(int which) {
        if (!isRule(which)) {
            return OUTSIDE;
        }
        if (signs.firstFault() != NONE) {
            return NO;
        }
        int answer = asOne(rules[which].count == 0);
        rules[which].copyFrom(signs);
        signs.count = 0;
        return answer;
    }

    public int worth(int rule, int man) {
        if (!isMan(man)) {
            return BELOW_WORTH + UNKNOWN;
        }
        if (!isRule(rule)) {
            return BELOW_WORTH + OUTSIDE;
        }
        if (rules[rule].count == 0) {
            return BELOW_WORTH + NONE;
        }
        return pile.result(rules[rule], men[man], wayToWork(men[man]));
    }

    // ---- 3 closing

    public int move(int pit, int i) {
        if (!isPit(pit) || !isWithin(i, -4, manCount - 1) || i >= 0 && men[i].pit != pit) {
            return UNKNOWN;
        }
        if (!pits[pit].open) {
            return STATE;
        }
        if (!workOutMove(pit)) {
            return NO;
        }
        switch (i) {
            case -1: return removal.left;
            case -2: return removal.far;
            case -3: return removal.sum;
            case -4: return removal.bridged;
            default: return removal.newPitOf(i);
        }
    }

    public int close(int pit) {
        if (!isPit(pit)) {
            return UNKNOWN;
        }
        if (!pits[pit].open) {
            return STATE;
        }
        if (!workOutMove(pit)) {
            return NO;
        }
        carryOutMove(pit);
        pits[pit].shut();
        return removal.left;
    }

    // ---- 4 water

    public int inflow(int pit, int v) {
        if (!isPit(pit)) {
            return UNKNOWN;
        }
        if (!isWithin(v, 0, 100)) {
            return OUTSIDE;
        }
        int before = water.inflows[pit];
        water.inflows[pit] = v;
        return before;
    }

    public int pump(int pit, boolean runs) {
        if (!isPit(pit)) {
            return UNKNOWN;
        }
        int before = asOne(water.pumps[pit]);
        water.pumps[pit] = runs;
        return before;
    }

    public int way(int a, int b, int height) {
        if (!isPit(a) || !isPit(b) || a == b) {
            return UNKNOWN;
        }
        if (!isWithin(height, 0, 1000)) {
            return OUTSIDE;
        }
        if (water.ways >= MOST_WAYS) {
            return FULL;
        }
        water.addWay(a, b, height);
        return water.ways - 1;
    }

    public int months(int n) {
        if (!isWithin(n, 1, MOST_MONTHS)) {
            return OUTSIDE;
        }
        int drowned = 0;
        for (int i = 0; i < n; i++) {
            drowned += water.passMonth();
        }
        return drowned;
    }

    public int threat(int pit, int stopped) {
        if (!isPit(pit) || !isPit(stopped)) {
            return UNKNOWN;
        }
        if (water.drowned[pit] != NONE) {
            return NONE;
        }
        trial.copyFrom(water);
        trial.pumps[stopped] = false;
        for (int month = 0; month < MOST_MONTHS; month++) {
            trial.passMonth();
            if (trial.drowned[pit] != NONE) {
                return month;
            }
        }
        return NONE;
    }

    // ---- 5 plans

    public int price(int row, int year, int v) {
        if (!isWithin(row, 0, ROWS - 1) || !isWithin(year, 0, PLAN_YEARS - 1)) {
            return UNKNOWN;
        }
        if (!isWithin(v, 0, 200)) {
            return OUTSIDE;
        }
        int before = plans.prices[row][year];
        plans.prices[row][year] = v;
        return before;
    }

    public int plan(int digits, int what) {
        if (!isWithin(what, 0, 2)) {
            return OUTSIDE;
        }
        plans.prepare(pits, pitCount, settings);
        if (!plans.readDigits(digits)) {
            return OUTSIDE;
        }
        switch (what) {
            case 0: return asOne(plans.isKept());
            case 1: return plans.costByRow(plans.worstRow());
            default: return plans.worstRow();
        }
    }

    public int best(int what) {
        if (!isWithin(what, 0, 1)) {
            return OUTSIDE;
        }
        plans.prepare(pits, pitCount, settings);
        if (!plans.findBest()) {
            return NO;
        }
        return what == 0 ? plans.bestDigits : plans.bestWorst;
    }

    // ---- 6 votes, harms, towns

    public int vote(int pit, int what) {
        if (!isPit(pit)) {
            return UNKNOWN;
        }
        if (!isWithin(what, 0, 1)) {
            return OUTSIDE;
        }
        if (!pits[pit].open) {
            return STATE;
        }
        int yes = 0;
        for (int m = 0; m < manCount; m++) {
            if (men[m].pit == pit && isTrue(VOTES_YES, men[m])) {
                yes++;
            }
        }
        return what == 0 ? yes : asOne(2 * yes > menAt(pit));
    }

    public int worked(int pit, int from, int till) {
        if (!isPit(pit)) {
            return UNKNOWN;
        }
        if (!isWithin(from, 0, LAST_YEAR) || !isWithin(till, from, LAST_YEAR)) {
            return OUTSIDE;
        }
        pits[pit].workedFrom = from;
        pits[pit].workedTill = till;
        return 1;
    }

    public int harm(int x, int y, int year, int sum) {
        if (!isPlace(x, y) || !isWithin(year, 0, LAST_YEAR) || !isWithin(sum, 0, 100000)) {
            return OUTSIDE;
        }
        if (harmCount >= MOST_HARMS) {
            return FULL;
        }
        harms[harmCount] = new Harm(new Place(x, y), year, sum);
        return harmCount++;
    }

    public int whose(int harm) {
        if (!isHarm(harm)) {
            return UNKNOWN;
        }
        int bits = 0;
        for (int p = 0; p < pitCount; p++) {
            if (canBe(p, harms[harm])) {
                bits |= 1 << p;
            }
        }
        return bits;
    }

    public int part(int harm, int pit) {
        if (!isHarm(harm) || !isPit(pit)) {
            return UNKNOWN;
        }
        if (!canBe(pit, harms[harm])) {
            return 0;
        }
        return partOf(harms[harm], pit);
    }

    public int work(int town, int what) {
        if (!isTown(town)) {
            return UNKNOWN;
        }
        switch (what) {
            case 0: return workersOf(town);
            case 1: return dwellersOf(town);
            case 2: return pitsOf(town);
            default: return OUTSIDE;
        }
    }

    public int lone() {
        int bits = 0;
        for (int t = 0; t < TOWN_COUNT; t++) {
            if (Integer.bitCount(pitsOf(t)) == 1) {
                bits |= 1 << t;
            }
        }
        return bits;
    }

    public int told(int what) {
        if (isWithin(what, 10, 14)) {
            return menWhoAre(what - 10);
        }
        if (isWithin(what, 20, 19 + settings.length)) {
            return settings[what - 20];
        }
        switch (what) {
            case 0: return pitCount;
            case 1: return manCount;
            case 2: return signs.count;
            case 3: return water.ways;
            case 4: return harmCount;
            case 5: return water.monthsGone;
            case 6: return water.pumped;
            case 7: return water.spilt;
            case 8: return openPits();
            default: return OUTSIDE;
        }
    }

    // ---- what numbers may be

    private static boolean isWithin(int v, int least, int most) {
        return v >= least && v <= most;
    }

    private static boolean isPlace(int x, int y) {
        return isWithin(x, 0, LAST_PLACE) && isWithin(y, 0, LAST_PLACE);
    }

    private static boolean isTown(int town) {
        return isWithin(town, 0, TOWN_COUNT - 1);
    }

    private static boolean isTrade(int trade) {
        return isWithin(trade, 0, TRADES - 1);
    }

    private static boolean isRule(int rule) {
        return isWithin(rule, 0, RULES - 1);
    }

    private boolean isPit(int pit) {
        return isWithin(pit, 0, pitCount - 1);
    }

    private boolean isMan(int man) {
        return isWithin(man, 0, manCount - 1);
    }

    private boolean isHarm(int harm) {
        return isWithin(harm, 0, harmCount - 1);
    }

    private static int asOne(boolean truth) {
        return truth ? 1 : 0;
    }

    // ---- men, pits and towns counted

    private int menAt(int pit) {
        int count = 0;
        for (int m = 0; m < manCount; m++) {
            if (men[m].pit == pit) {
                count++;
            }
        }
        return count;
    }

    private int menWhoAre(int standing) {
        int count = 0;
        for (int m = 0; m < manCount; m++) {
            if (men[m].standing == standing) {
                count++;
            }
        }
        return count;
    }

    private int openPits() {
        int bits = 0;
        for (int p = 0; p < pitCount; p++) {
            if (pits[p].open) {
                bits |= 1 << p;
            }
        }
        return bits;
    }

    private int workersOf(int town) {
        int count = 0;
        for (int m = 0; m < manCount; m++) {
            if (men[m].town == town && men[m].standing == AT_PIT) {
                count++;
            }
        }
        return count;
    }

    private int dwellersOf(int town) {
        int count = 0;
        for (int m = 0; m < manCount; m++) {
            if (men[m].town == town && men[m].standing != GONE) {
                count++;
            }
        }
        return count;
    }

    private int pitsOf(int town) {
        int bits = 0;
        for (int m = 0; m < manCount; m++) {
            if (men[m].town == town && isPit(men[m].pit)) {
                bits |= 1 << men[m].pit;
            }
        }
        return bits;
    }

    // ---- rules put to men

    private boolean isTrue(int rule, Man man) {
        return rules[rule].count > 0 && pile.result(rules[rule], man, wayToWork(man)) != 0;
    }

    private int wayToWork(Man man) {
        return isPit(man.pit) ? wayTo(man.pit, man) : 0;
    }

    private int wayTo(int pit, Man man) {
        return towns[man.town].farFrom(pits[pit].place);
    }

    // ---- the move

    /** False: more MEN would have to move than the document lets. */
    private boolean workOutMove(int pit) {
        removal.clear();
        for (int p = 0; p < pitCount; p++) {
            if (p != pit && pits[p].open) {
                removal.addSlots(p, pits[p].posts);
            }
        }
        for (int m = 0; m < manCount; m++) {
            if (men[m].pit == pit) {
                if (isTrue(MAY_BRIDGE, men[m])) {
                    removal.bridged++;
                } else if (!removal.addMan(m)) {
                    return false;
                }
            }
        }
        for (int j = 0; j < removal.movers; j++) {
            offerSlots(j, men[removal.mover[j]]);
        }
        removal.settle();
        return true;
    }

    private void offerSlots(int j, Man man) {
        boolean staysNear = isTrue(STAYS_NEAR, man);
        for (int s = 0; s < removal.slots; s++) {
            if (removal.slotTrade[s] == man.trade) {
                int way = wayTo(removal.slotPit[s], man);
                boolean far = way > settings[NEAR];
                if (!far || !staysNear) {
                    removal.offer(j, s, way, far);
                }
            }
        }
    }

    private void carryOutMove(int pit) {
        for (int m = 0; m < manCount; m++) {
            if (men[m].pit == pit && removal.indexOf(m) == NONE) {
                men[m].quit(BRIDGED);
            }
        }
        for (int j = 0; j < removal.movers; j++) {
            Man man = men[removal.mover[j]];
            int slot = removal.slotOf[j];
            if (slot == NONE) {
                man.quit(LEFT);
            } else {
                man.pit = removal.slotPit[slot];
                pits[man.pit].posts[man.trade]--;
            }
        }
    }

    // ---- harms

    private boolean canBe(int pit, Harm harm) {
        Pit asked = pits[pit];
        boolean near = asked.place.farFrom(harm.place) <= asked.depth / 30;
        return near && asked.workedFrom <= harm.happened && asked.workedTill >= harm.happened - settings[SPAN];
    }

    /** The part of a PIT that CAN BE the HARM. */
    private int partOf(Harm harm, int pit) {
        int first = NONE;
        int weights = 0;
        for (int p = 0; p < pitCount; p++) {
            if (canBe(p, harm)) {
                weights += pits[p].tons + 1;
                first = first == NONE ? p : first;
            }
        }
        int over = harm.sum;
        for (int p = 0; p < pitCount; p++) {
            if (canBe(p, harm)) {
                over -= share(harm.sum, pits[p].tons + 1, weights);
            }
        }
        int own = share(harm.sum, pits[pit].tons + 1, weights);
        return pit == first ? own + over : own;
    }

    private static int share(int sum, int weight, int weights) {
        return weights <= 0 ? 0 : sum * weight / weights;
    }

    private static final class Place {
        private int x;
        private int y;

        private Place(int x, int y) {
            this.x = x;
            this.y = y;
        }

        private int farFrom(Place other) {
            return Math.abs(x - other.x) + Math.abs(y - other.y);
        }
    }

    private static final class Pit {
        private final Place place;
        private final int tons;
        private final int cost;
        private final int depth;
        private final int[] posts = new int[TRADES];
        private boolean open = true;
        private int workedFrom;
        private int workedTill = LAST_YEAR;

        private Pit(Place place, int tons, int cost, int depth) {
            this.place = place;
            this.tons = tons;
            this.cost = cost;
            this.depth = depth;
        }

        private void shut() {
            open = false;
            for (int t = 0; t < TRADES; t++) {
                posts[t] = 0;
            }
        }
    }

    private static final class Man {
        private int age;
        private final int trade;
        private int years;
        private final int town;
        /** NONE, unless he is at one. */
        private int pit;
        private final boolean kin;
        private int standing = AT_PIT;

        private Man(int age, int trade, int years, int town, int pit, boolean kin) {
            this.age = age;
            this.trade = trade;
            this.years = years;
            this.town = town;
            this.pit = pit;
            this.kin = kin;
        }

        private void quit(int newStanding) {
            standing = newStanding;
            pit = NONE;
        }

        /** Whether he is PENSIONED by this year. */
        private boolean growOlder(int pension) {
            if (standing == GONE) {
                return false;
            }
            age = Math.min(age + 1, 70);
            if (standing == AT_PIT) {
                years = Math.min(years + 1, 50);
            }
            if (standing == PENSIONED || age < pension) {
                return false;
            }
            quit(PENSIONED);
            return true;
        }
    }

    private static final class Harm {
        private final Place place;
        private final int happened;
        private final int sum;

        private Harm(Place place, int happened, int sum) {
            this.place = place;
            this.happened = happened;
            this.sum = sum;
        }
    }

    /** Signs: those being said, or a RULE's; a RULE without signs is none. */
    private static final class Text {
        private final int[] signs = new int[MOST_SIGNS];
        private int count;

        private boolean add(int sign) {
            if (count >= MOST_SIGNS) {
                return false;
            }
            signs[count] = sign;
            count++;
            return true;
        }

        private void copyFrom(Text other) {
            System.arraycopy(other.signs, 0, signs, 0, MOST_SIGNS);
            count = other.count;
        }

        private int firstFault() {
            int height = 0;
            int digits = 0;
            for (int i = 0; i < count; i++) {
                if (isDigit(signs[i])) {
                    digits++;
                    // on a full pile a number can not even begin, whatever would end it
                    if (digits > MOST_DIGITS || height >= MOST_ON_PILE) {
                        return i;
                    }
                } else {
                    // a number is laid by its comma, and nothing else may end it
                    boolean stands = (digits > 0) == (signs[i] == ',');
                    height = stands ? heightBehind(signs[i], height) : NONE;
                    if (height == NONE) {
                        return i;
                    }
                    digits = 0;
                }
            }
            return digits == 0 && height == 1 ? NONE : count;
        }

        private static boolean isDigit(int sign) {
            return sign >= '0' && sign <= '9';
        }

        /** How many are on the pile behind a sign; NONE: it can not stand there. */
        private static int heightBehind(int sign, int height) {
            switch (sign) {
                case 'a': case 'y': case 't': case 'k': case 'f': case ',':
                    return height < MOST_ON_PILE ? height + 1 : NONE;
                case '+': case '-': case '*': case '<': case '>': case '=': case '&': case '|':
                    return height >= 2 ? height - 1 : NONE;
                case '!':
                    return height >= 1 ? height : NONE;
                default:
                    return NONE;
            }
        }
    }

    /** Works RULES that have no FAULT. */
    private static final class Pile {
        private final int[] cells = new int[MOST_ON_PILE];
        private int height;

        private int result(Text rule, Man man, int wayToWork) {
            height = 0;
            int number = 0;
            for (int i = 0; i < rule.count; i++) {
                int sign = rule.signs[i];
                if (Text.isDigit(sign)) {
                    number = number * 10 + sign - '0';
                } else {
                    lay(whatComesOf(sign, man, wayToWork, number));
                    number = 0;
                }
            }
            return take();
        }

        private long whatComesOf(int sign, Man man, int wayToWork, int number) {
            switch (sign) {
                case 'a': return man.age;
                case 'y': return man.years;
                case 't': return man.trade;
                case 'k': return asOne(man.kin);
                case 'f': return wayToWork;
                case ',': return number;
                case '!': return asOne(take() == 0);
                default: return joined(sign);
            }
        }

        private long joined(int sign) {
            long upper = take();
            long lower = take();
            switch (sign) {
                case '+': return lower + upper;
                case '-': return lower - upper;
                case '*': return lower * upper;
                case '<': return asOne(lower < upper);
                case '>': return asOne(lower > upper);
                case '=': return asOne(lower == upper);
                case '&': return asOne(lower != 0 && upper != 0);
                default: return asOne(lower != 0 || upper != 0);
            }
        }

        private void lay(long v) {
            if (height < MOST_ON_PILE) {
                cells[height] = (int) Math.max(-NUMBER_LIMIT, Math.min(NUMBER_LIMIT, v));
                height++;
            }
        }

        private int take() {
            if (height <= 0) {
                return 0;
            }
            height--;
            return cells[height];
        }
    }

    /** THE MOVE: MEN who must go, SLOTS that are there, and who gets which. */
    private static final class Removal {
        /** A whole above what nine ways together can be, and one above nine FAR and those. */
        private static final int FAR_UNIT = 2000, LEFT_UNIT = 20000;
        /** 13 to the 9th: nine choices among twelve SLOTS and none, as digits. */
        private static final long CHOICES = 10604499373L;

        private final int[] slotPit = new int[MOST_SLOTS];
        private final int[] slotTrade = new int[MOST_SLOTS];
        private int slots;
        private final int[] mover = new int[MOST_MOVED];
        private int movers;
        private final int[] slotOf = new int[MOST_MOVED];
        private final Pairing pairing = new Pairing();
        private int bridged;
        private int left;
        private int far;
        private int sum;

        private void clear() {
            slots = 0;
            movers = 0;
            bridged = 0;
        }

        private void addSlots(int pit, int[] posts) {
            for (int t = 0; t < TRADES; t++) {
                for (int i = 0; i < posts[t] && slots < MOST_SLOTS; i++) {
                    slotPit[slots] = pit;
                    slotTrade[slots] = t;
                    slots++;
                }
            }
        }

        private boolean addMan(int man) {
            if (movers >= MOST_MOVED) {
                return false;
            }
            mover[movers] = man;
            pairing.bar(movers, slots);
            for (int none = 0; none < MOST_MOVED; none++) {
                pairing.cost[movers][slots + none] = weigh(LEFT_UNIT, movers, MOST_SLOTS);
            }
            movers++;
            return true;
        }

        private void offer(int j, int slot, int way, boolean isFar) {
            pairing.cost[j][slot] = weigh(isFar ? way + FAR_UNIT : way, j, slot);
        }

        /** One number by which the cheapest sum is THE MOVE: the order of SLOTS stands below all else. */
        private static long weigh(int rank, int j, int slot) {
            long digit = CHOICES;
            for (int i = 0; i <= j; i++) {
                digit /= MOST_SLOTS + 1;
            }
            return rank * CHOICES + slot * digit;
        }

        private void settle() {
            pairing.solve(movers, slots + MOST_MOVED);
            long total = 0;
            for (int j = 0; j < movers; j++) {
                int column = pairing.columnOf(j);
                total += pairing.cost[j][column];
                slotOf[j] = column < slots ? column : NONE;
            }
            int rank = (int) (total / CHOICES);
            left = rank / LEFT_UNIT;
            far = rank % LEFT_UNIT / FAR_UNIT;
            sum = rank % FAR_UNIT;
        }

        /** NONE: he is not among those who must go. */
        private int indexOf(int man) {
            for (int j = 0; j < movers; j++) {
                if (mover[j] == man) {
                    return j;
                }
            }
            return NONE;
        }

        private int newPitOf(int man) {
            int j = indexOf(man);
            return j == NONE || slotOf[j] == NONE ? NONE : slotPit[slotOf[j]];
        }
    }

    /** Gives each row a column of its own so that the sum of costs is the least (the Hungarian method). */
    private static final class Pairing {
        private static final int MOST_COLUMNS = MOST_SLOTS + MOST_MOVED;
        /** Far above every sum of true costs, far below what would wrap around. */
        private static final long BARRED = 100000000000000000L, UNREACHED = 4000000000000000000L;

        private final long[][] cost = new long[MOST_MOVED][MOST_COLUMNS];
        private final long[] rowWorth = new long[MOST_MOVED + 1];
        private final long[] columnWorth = new long[MOST_COLUMNS + 1];
        private final long[] slack = new long[MOST_COLUMNS + 1];
        /** Rows and columns count from 1 here: column 0 stands for the row that seeks one, row 0 for no row. */
        private final int[] rowOf = new int[MOST_COLUMNS + 1];
        private final int[] cameFrom = new int[MOST_COLUMNS + 1];
        private final boolean[] reached = new boolean[MOST_COLUMNS + 1];
        private int columns;

        private void bar(int row, int firstColumns) {
            for (int c = 0; c < firstColumns; c++) {
                cost[row][c] = BARRED;
            }
        }

        private void solve(int rows, int columnsInUse) {
            columns = columnsInUse;
            for (int c = 0; c <= columns; c++) {
                columnWorth[c] = 0;
                rowOf[c] = 0;
            }
            for (int r = 1; r <= rows; r++) {
                rowWorth[r] = 0;
                seat(r);
            }
        }

        private void seat(int row) {
            for (int c = 0; c <= columns; c++) {
                slack[c] = UNREACHED;
                reached[c] = false;
            }
            rowOf[0] = row;
            int column = 0;
            for (int step = 0; step <= columns && rowOf[column] != 0; step++) {
                column = reachNext(column);
            }
            for (int step = 0; step <= columns && column != 0; step++) {
                rowOf[column] = rowOf[cameFrom[column]];
                column = cameFrom[column];
            }
        }

        private int reachNext(int from) {
            reached[from] = true;
            int row = rowOf[from];
            int nearest = 0;
            for (int c = 1; c <= columns; c++) {
                if (!reached[c]) {
                    long spare = cost[row - 1][c - 1] - rowWorth[row] - columnWorth[c];
                    if (spare < slack[c]) {
                        slack[c] = spare;
                        cameFrom[c] = from;
                    }
                    if (nearest == 0 || slack[c] < slack[nearest]) {
                        nearest = c;
                    }
                }
            }
            shiftWorths(slack[nearest]);
            return nearest;
        }

        private void shiftWorths(long by) {
            for (int c = 0; c <= columns; c++) {
                if (reached[c]) {
                    rowWorth[rowOf[c]] += by;
                    columnWorth[c] -= by;
                } else {
                    slack[c] -= by;
                }
            }
        }

        private int columnOf(int row) {
            for (int c = 1; c < columns; c++) {
                if (rowOf[c] == row + 1) {
                    return c - 1;
                }
            }
            return columns - 1;
        }
    }

    private static final class Water {
        private final int[] depth = new int[MOST_PITS];
        private final int[] inflows = new int[MOST_PITS];
        private final int[] level = new int[MOST_PITS];
        private final boolean[] pumps = new boolean[MOST_PITS];
        /** The MONTH in which a PIT DROWNED, or NONE. */
        private final int[] drowned = new int[MOST_PITS];
        private int basins;
        private final int[] wayA = new int[MOST_WAYS];
        private final int[] wayB = new int[MOST_WAYS];
        private final int[] wayHeight = new int[MOST_WAYS];
        private int ways;
        private int monthsGone;
        private int pumped;
        private int spilt;

        private void addBasin(int itsDepth) {
            if (basins < MOST_PITS) {
                depth[basins] = itsDepth;
                pumps[basins] = true;
                drowned[basins] = NONE;
                basins++;
            }
        }

        private void addWay(int a, int b, int height) {
            if (ways < MOST_WAYS) {
                wayA[ways] = a;
                wayB[ways] = b;
                wayHeight[ways] = height;
                ways++;
            }
        }

        private void copyFrom(Water other) {
            System.arraycopy(other.depth, 0, depth, 0, MOST_PITS);
            System.arraycopy(other.inflows, 0, inflows, 0, MOST_PITS);
            System.arraycopy(other.level, 0, level, 0, MOST_PITS);
            System.arraycopy(other.drowned, 0, drowned, 0, MOST_PITS);
            for (int p = 0; p < MOST_PITS; p++) {
                pumps[p] = other.pumps[p];
            }
            basins = other.basins;
            System.arraycopy(other.wayA, 0, wayA, 0, MOST_WAYS);
            System.arraycopy(other.wayB, 0, wayB, 0, MOST_WAYS);
            System.arraycopy(other.wayHeight, 0, wayHeight, 0, MOST_WAYS);
            ways = other.ways;
            monthsGone = other.monthsGone;
            pumped = other.pumped;
            spilt = other.spilt;
        }

        /** How many PITS DROWN in it. */
        private int passMonth() {
            for (int p = 0; p < basins; p++) {
                level[p] += inflows[p];
            }
            for (int w = 0; w < ways; w++) {
                runThrough(wayA[w], wayB[w], wayHeight[w]);
            }
            int count = 0;
            for (int p = 0; p < basins; p++) {
                drain(p);
                if (drowned[p] == NONE && level[p] > depth[p] / 3) {
                    drowned[p] = monthsGone;
                    count++;
                }
            }
            monthsGone++;
            return count;
        }

        private void runThrough(int a, int b, int height) {
            int higher = level[a] > level[b] ? a : b;
            int lower = higher == a ? b : a;
            int over = level[higher] - Math.max(height, level[lower]);
            if (over > 0) {
                level[higher] -= over / 2;
                level[lower] += over / 2;
            }
        }

        private void drain(int p) {
            if (pumps[p]) {
                pumped += level[p];
                level[p] = 0;
            } else if (level[p] > depth[p]) {
                spilt += level[p] - depth[p];
                level[p] = depth[p];
            }
        }
    }

    /** PRICES, one PLAN at a time, and the search for THE BEST one. */
    private static final class Plans {
        private static final int CHOICES = PLAN_YEARS + 1;
        /** Eight PITS cost 8,000,000 in five years at most. */
        private static final int ABOVE_ALL_COSTS = 1000000000;

        private final int[][] prices = new int[ROWS][PLAN_YEARS];
        private final int[] tons = new int[MOST_PITS];
        private final boolean[] open = new boolean[MOST_PITS];
        /** What a PIT costs by a ROW, if it is closed from a year on: at PIT times CHOICES and year. */
        private final int[][] costs = new int[MOST_PITS * CHOICES][ROWS];
        /** The least that PITS from one on can cost together, by ROWS. */
        private final int[][] leastFrom = new int[MOST_PITS + 1][ROWS];
        /** What PITS ahead of one cost together in the PLAN at hand, by ROWS. */
        private final int[][] paidAhead = new int[MOST_PITS + 1][ROWS];
        private final int[] years = new int[MOST_PITS];
        private final int[] closings = new int[CHOICES];
        private int count;
        private int span;
        private int owed;
        private int atOnce;
        /** TONS that are still won in the last year, if PITS not yet looked at stay open. */
        private int wonAtLast;
        private int bestWorst;
        private int bestDigits;

        private Plans() {
            for (int r = 0; r < ROWS; r++) {
                for (int t = 0; t < PLAN_YEARS; t++) {
                    prices[r][t] = 100;
                }
            }
        }

        private void prepare(Pit[] pits, int pitCount, int[] settings) {
            count = pitCount;
            span = settings[SPAN_OF_PLAN];
            owed = settings[OWED];
            atOnce = settings[AT_ONCE];
            for (int p = 0; p < count; p++) {
                tons[p] = pits[p].tons;
                open[p] = pits[p].open;
                for (int year = 0; year < CHOICES; year++) {
                    fillCosts(costs[p * CHOICES + year], pits[p], year, settings[BURDEN]);
                }
            }
        }

        private void fillCosts(int[] byRow, Pit pit, int closedFrom, int burden) {
            for (int r = 0; r < ROWS; r++) {
                byRow[r] = 0;
                for (int t = 0; t < span; t++) {
                    byRow[r] += t < closedFrom ? pit.tons * Math.max(0, pit.cost - prices[r][t]) : burden;
                }
            }
        }

        /** False: the digits tell no PLAN. */
        private boolean readDigits(int digits) {
            int rest = digits;
            for (int p = count - 1; p >= 0; p--) {
                years[p] = rest % 10;
                rest /= 10;
                if (years[p] < 0 || years[p] > PLAN_YEARS || !open[p] && years[p] != 0) {
                    return false;
                }
            }
            return rest == 0;
        }

        private boolean isKept() {
            startClosings();
            for (int p = 0; p < count; p++) {
                if (!mayClose(p, years[p])) {
                    return false;
                }
                closeFrom(p, years[p]);
            }
            return wonAtLast >= owed;
        }

        private int costByRow(int row) {
            int sum = 0;
            for (int p = 0; p < count; p++) {
                sum += costs[p * CHOICES + years[p]][row];
            }
            return sum;
        }

        private int worstRow() {
            int worst = 0;
            for (int r = 1; r < ROWS; r++) {
                if (costByRow(r) > costByRow(worst)) {
                    worst = r;
                }
            }
            return worst;
        }

        private void startClosings() {
            wonAtLast = 0;
            for (int p = 0; p < count; p++) {
                wonAtLast += open[p] ? tons[p] : 0;
            }
            for (int t = 0; t < CHOICES; t++) {
                closings[t] = 0;
            }
        }

        private boolean closesWithin(int pit, int year) {
            return open[pit] && year < span;
        }

        /** TONS never rise from year to year, so the last of the years tells whether enough are won. */
        private boolean mayClose(int pit, int year) {
            return !closesWithin(pit, year) || closings[year] < atOnce && wonAtLast - tons[pit] >= owed;
        }

        private void closeFrom(int pit, int year) {
            if (closesWithin(pit, year)) {
                closings[year]++;
                wonAtLast -= tons[pit];
            }
        }

        private void openAgain(int pit, int year) {
            if (closesWithin(pit, year)) {
                closings[year]--;
                wonAtLast += tons[pit];
            }
        }

        /** False: no PLAN is KEPT. */
        private boolean findBest() {
            startClosings();
            if (wonAtLast < owed) {
                return false;
            }
            bestWorst = ABOVE_ALL_COSTS;
            fillLeast();
            for (int r = 0; r < ROWS; r++) {
                paidAhead[0][r] = 0;
            }
            choose(this, 0);
            return true;
        }

        private void fillLeast() {
            for (int r = 0; r < ROWS; r++) {
                leastFrom[count][r] = 0;
                for (int p = count - 1; p >= 0; p--) {
                    int least = costs[p * CHOICES][r];
                    for (int year = 1; year <= lastChoice(p); year++) {
                        least = Math.min(least, costs[p * CHOICES + year][r]);
                    }
                    leastFrom[p][r] = leastFrom[p + 1][r] + least;
                }
            }
        }

        /** Years behind the span are all alike, so the first of them is enough. */
        private int lastChoice(int pit) {
            return open[pit] ? Math.min(span, PLAN_YEARS) : 0;
        }

        /** Years are tried in order, and a later PLAN has to be better: so the first of the best is kept. */
        private static void choose(Plans plan, int pit) {
            if (pit >= plan.count) {
                plan.keepAsBest();
                return;
            }
            for (int year = 0; year <= plan.lastChoice(pit); year++) {
                if (plan.mayClose(pit, year)) {
                    plan.pay(pit, year);
                    if (plan.mayBeBetter(pit + 1)) {
                        plan.closeFrom(pit, year);
                        choose(plan, pit + 1);
                        plan.openAgain(pit, year);
                    }
                }
            }
        }

        private void pay(int pit, int year) {
            years[pit] = year;
            for (int r = 0; r < ROWS; r++) {
                paidAhead[pit + 1][r] = paidAhead[pit][r] + costs[pit * CHOICES + year][r];
            }
        }

        private boolean mayBeBetter(int nextPit) {
            for (int r = 0; r < ROWS; r++) {
                if (paidAhead[nextPit][r] + leastFrom[nextPit][r] >= bestWorst) {
                    return false;
                }
            }
            return true;
        }

        private void keepAsBest() {
            bestWorst = costByRow(worstRow());
            bestDigits = 0;
            for (int p = 0; p < count; p++) {
                bestDigits = bestDigits * 10 + years[p];
            }
        }
    }
}
