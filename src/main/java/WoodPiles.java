/**
 * Woodpiles in which the driest log never lies under wetter ones. The promises are in ../shared/DOC.md;
 * README.md tells how this file is laid out.
 */
public final class WoodPiles {
    public static final int NONE = -1;

    private static final int MAX_PILES = 4;
    private static final int MAX_LOGS = 24;
    private static final int MAX_DAMP = 99;
    private static final int MAX_WEATHER = 30;
    private static final int MAX_NIGHTS = 9;
    private static final int MAX_TURNS = 60;
    private static final int MAX_COMMANDS = 3;
    private static final int MAX_TEXT = 120;
    private static final int MAX_CODE = 255;
    private static final int MAX_REMEMBERED = 14;
    private static final int MOST_LIFTS_TOLD = 9999;
    private static final int FIRST_LIMIT = 40;
    private static final int GROUP = 100000;

    private final Text text;
    private final Yard yard;
    private final Memory memory;
    private final Slot firstSlot;
    private final Slot secondSlot;
    private final Yard trial;
    private final Yard[] levels;

    public WoodPiles() {
        text = new Text();
        yard = new Yard();
        memory = new Memory();
        firstSlot = new Slot();
        secondSlot = new Slot();
        trial = new Yard();
        levels = new Yard[MAX_PILES];
        for (int i = 0; i < levels.length; i++) {
            levels[i] = new Yard();
        }
    }

    // ---- text

    public int append(int c) throws IllegalArgumentException, IllegalStateException {
        if (c < 0 || c > MAX_CODE) {
            throw new IllegalArgumentException("the character code is not 0 to 255");
        }
        if (text.isFull()) {
            throw new IllegalStateException("the text has 120 characters");
        }
        return text.add((char) c);
    }

    public int clearText() {
        return text.empty();
    }

    public int errorPosition() {
        return text.firstWrong();
    }

    public int load() throws IllegalStateException {
        if (text.firstWrong() != NONE) {
            throw new IllegalStateException("the text is not a yard");
        }
        yard.clear();
        memory.forget();
        firstSlot.filled = false;
        secondSlot.filled = false;
        int leftOut = 0;
        text.begin();
        for (int i = 0; i < MAX_TEXT && text.hasMore() && text.readCommand(); i++) {
            if (!yard.obey(text.letter, text.first, text.second)) {
                leftOut++;
            }
        }
        return leftOut;
    }

    // ---- what there is

    public int about(int what) throws IllegalArgumentException {
        switch (what) {
            case 0: return yard.piles;
            case 1: return yard.came;
            case 2: return yard.logsInAll();
            case 3: return yard.burnt;
            case 4: return yard.takenOut;
            case 5: return yard.lifts;
            case 6: return yard.heat;
            case 7: return yard.smoked;
            case 8: return yard.coldNights;
            case 9: return yard.refused;
            case 10: return yard.dampInAll();
            case 11: return yard.limit;
            default: throw new IllegalArgumentException("what is not 0 to 11");
        }
    }

    public int pileOf(int p, int what) throws IndexOutOfBoundsException, IllegalArgumentException {
        needPile(p);
        switch (what) {
            case 0: return yard.logsIn(p);
            case 1: return yard.topOf(p);
            case 2: return yard.greatestDepth(p);
            case 3: return yard.isCovered(p) ? 1 : 0;
            case 4: return yard.offIn(p);
            case 5: return yard.dampIn(p);
            case 6: return yard.whyNotDrawn(p);
            default: throw new IllegalArgumentException("what is not 0 to 6");
        }
    }

    public int logOf(int l, int what) throws IndexOutOfBoundsException, IllegalArgumentException {
        needLog(l);
        switch (what) {
            case 0: return get(yard.damp, l);
            case 1: return get(yard.home, l);
            case 2: return yard.depthOf(l);
            case 3: return get(yard.above, l);
            case 4: return get(yard.left, l);
            case 5: return get(yard.right, l);
            case 6: return yard.logsUnder(l);
            default: throw new IllegalArgumentException("what is not 0 to 6");
        }
    }

    public int ranked(int p, int rank, int way)
            throws IndexOutOfBoundsException, IllegalArgumentException, IllegalStateException {
        needPile(p);
        if (rank < 0 || rank >= yard.logsIn(p)) {
            throw new IndexOutOfBoundsException("there is no such rank");
        }
        if (way != 0 && way != 1) {
            throw new IllegalArgumentException("way is neither 0 nor 1");
        }
        if (yard.offIn(p) > 0) {
            throw new IllegalStateException("the pile is off");
        }
        return way == 0 ? yard.rankedFromTop(p, rank) : yard.rankedByAll(p, rank);
    }

    // ---- actions

    public int pile() throws IllegalStateException {
        if (!yard.hasRoomForPile()) {
            throw new IllegalStateException("there are 4 piles");
        }
        memory.keep(yard);
        return yard.addPile();
    }

    public int log(int p, int damp)
            throws IndexOutOfBoundsException, IllegalArgumentException, IllegalStateException {
        needPile(p);
        needDamp(damp);
        if (!yard.hasRoomForLog()) {
            throw new IllegalStateException("24 logs came");
        }
        memory.keep(yard);
        return yard.addLog(p, damp);
    }

    public int draw(int p) throws IndexOutOfBoundsException {
        needPile(p);
        memory.keep(yard);
        int why = yard.whyNotDrawn(p);
        if (why == 0) {
            yard.burnTop(p);
        } else {
            yard.refused++;
        }
        return why;
    }

    public int take(int l) throws IndexOutOfBoundsException {
        needLog(l);
        memory.keep(yard);
        return yard.takeAway(l);
    }

    public int join(int p, int q) throws IndexOutOfBoundsException, IllegalArgumentException {
        needTwoPiles(p, q);
        memory.keep(yard);
        return yard.joinPiles(p, q);
    }

    public int cover(int p, boolean on) throws IndexOutOfBoundsException {
        needPile(p);
        memory.keep(yard);
        return yard.changeCover(p, on) ? 1 : 0;
    }

    public int wind(int w) throws IllegalArgumentException {
        needWeather(w);
        memory.keep(yard);
        yard.letWindBlow(w);
        return yard.dampInAll();
    }

    public int rain(int w) throws IllegalArgumentException {
        needWeather(w);
        memory.keep(yard);
        yard.letRainFall(w);
        return yard.offInAll();
    }

    public int mend(int p) throws IndexOutOfBoundsException {
        needPile(p);
        memory.keep(yard);
        return yard.mendPile(p);
    }

    public int nights(int n) throws IllegalArgumentException {
        if (n < 1 || n > MAX_NIGHTS) {
            throw new IllegalArgumentException("n is not 1 to 9");
        }
        memory.keep(yard);
        return yard.passNights(n);
    }

    public int set(int v) throws IllegalArgumentException {
        needDamp(v);
        memory.keep(yard);
        int previous = yard.limit;
        yard.limit = v;
        return previous;
    }

    public int undo() throws IllegalStateException {
        if (memory.isEmpty()) {
            throw new IllegalStateException("no state is remembered");
        }
        return memory.giveBack(yard);
    }

    // ---- what would be

    public int drawsTill(int p, int damp) throws IndexOutOfBoundsException, IllegalArgumentException {
        needPile(p);
        needDamp(damp);
        Yard copy = copyOfYard();
        int draws = 0;
        for (int i = 0; i < MAX_LOGS && copy.whyNotDrawn(p) == 0 && copy.dampOfTop(p) <= damp; i++) {
            copy.burnTop(p);
            draws++;
        }
        return draws;
    }

    public int ifJoined(int p, int q) throws IndexOutOfBoundsException, IllegalArgumentException {
        needTwoPiles(p, q);
        return copyOfYard().joinPiles(p, q);
    }

    public int fewestLifts() {
        Yard start = yardAt(levels, 0);
        if (start == null) {
            return 0;
        }
        start.copyFrom(yard);
        return fewestFrom(levels, 0);
    }

    public int ifMended(int p, int what) throws IndexOutOfBoundsException, IllegalArgumentException {
        needPile(p);
        if (what != 0 && what != 1) {
            throw new IllegalArgumentException("what is neither 0 nor 1");
        }
        Yard copy = copyOfYard();
        int mending = copy.mendPile(p);
        return what == 0 ? mending : copy.drawEmpty(p);
    }

    public int harmless() {
        if (yard.offInAll() > 0) {
            return NONE;
        }
        // Every strength is tried: a stronger rain can do no harm where a weaker one does.
        for (int w = MAX_WEATHER; w > 0; w--) {
            Yard copy = copyOfYard();
            copy.letRainFall(w);
            if (copy.offInAll() == 0) {
                return w;
            }
        }
        return 0;
    }

    // ---- scripts, simulations

    public int runScript(int n, long script) throws IllegalArgumentException {
        if (n < 1 || n > MAX_COMMANDS) {
            throw new IllegalArgumentException("n is not 1 to 3");
        }
        if (script < 0 || withoutGroups(script, n) != 0) {
            throw new IllegalArgumentException("the script is negative or has too many digits");
        }
        Yard copy = copyOfYard();
        for (int i = 0; i < n; i++) {
            int group = (int) (withoutGroups(script, n - 1 - i) % GROUP);
            if (!doGroup(copy, group)) {
                return i;
            }
        }
        return NONE;
    }

    public int simulate(long seed, int m) throws IllegalArgumentException {
        if (m < 1 || m > MAX_TURNS) {
            throw new IllegalArgumentException("m is not 1 to 60");
        }
        Yard copy = copyOfYard();
        long x = seed;
        for (int turn = 0; turn < m; turn++) {
            x = x * 6364136223846793005L + 1442695040888963407L;
            int r = (int) (x >>> 33);
            int kind = r % 16;
            int q = r / 16;
            copy.obey(letterOfTurn(kind), firstOfTurn(kind, q), secondOfTurn(kind, q));
        }
        int lifts = copy.lifts - yard.lifts;
        return 10000 * copy.logsInAll() + (lifts > MOST_LIFTS_TOLD ? MOST_LIFTS_TOLD : lifts);
    }

    // ---- save slots

    public int save(int slot) throws IndexOutOfBoundsException {
        needSlot(slot);
        Slot chosen = slotOf(slot);
        chosen.state.copyFrom(yard);
        chosen.filled = true;
        return yard.came;
    }

    public int restore(int slot) throws IndexOutOfBoundsException, IllegalStateException {
        needSlot(slot);
        Slot chosen = slotOf(slot);
        if (!chosen.filled) {
            throw new IllegalStateException("nothing is saved in the slot");
        }
        yard.copyFrom(chosen.state);
        memory.forget();
        return yard.came;
    }

    // ---- what the calls need

    private void needPile(int p) {
        if (!yard.hasPile(p)) {
            throw new IndexOutOfBoundsException("there is no such pile");
        }
    }

    private void needTwoPiles(int p, int q) {
        if (!yard.hasPile(p) || !yard.hasPile(q)) {
            throw new IndexOutOfBoundsException("there is no such pile");
        }
        if (p == q) {
            throw new IllegalArgumentException("both piles are the same");
        }
    }

    private void needLog(int l) {
        if (!yard.hasLog(l)) {
            throw new IndexOutOfBoundsException("there is no such log");
        }
    }

    private static void needDamp(int damp) {
        if (!isDamp(damp)) {
            throw new IllegalArgumentException("the damp is not 0 to 99");
        }
    }

    private static void needWeather(int w) {
        if (!isWeather(w)) {
            throw new IllegalArgumentException("w is not 1 to 30");
        }
    }

    private static void needSlot(int slot) {
        if (slot != 0 && slot != 1) {
            throw new IndexOutOfBoundsException("there is no such save slot");
        }
    }

    private static boolean isDamp(int damp) {
        return damp >= 0 && damp <= MAX_DAMP;
    }

    private static boolean isWeather(int w) {
        return w >= 1 && w <= MAX_WEATHER;
    }

    private Slot slotOf(int slot) {
        return slot == 0 ? firstSlot : secondSlot;
    }

    /** One copy serves all the calls that only ask, so that they make no new objects. */
    private Yard copyOfYard() {
        trial.copyFrom(yard);
        return trial;
    }

    /**
     * Every order of joining is tried, since what a join costs depends on what came of those before it.
     * Empty piles are passed over: no lift is needed to join one.
     */
    private static int fewestFrom(Yard[] copies, int level) {
        Yard here = yardAt(copies, level);
        Yard next = yardAt(copies, level + 1);
        if (here == null || next == null) {
            return 0;
        }
        int fewest = NONE;
        for (int p = 0; p < MAX_PILES; p++) {
            for (int q = p + 1; q < MAX_PILES; q++) {
                if (here.topOf(p) != NONE && here.topOf(q) != NONE) {
                    next.copyFrom(here);
                    int lifts = next.joinPiles(p, q) + fewestFrom(copies, level + 1);
                    fewest = fewest == NONE || lifts < fewest ? lifts : fewest;
                }
            }
        }
        return fewest == NONE ? 0 : fewest;
    }

    private static long withoutGroups(long script, int groups) {
        long rest = script;
        for (int i = 0; i < groups; i++) {
            rest /= GROUP;
        }
        return rest;
    }

    private static boolean doGroup(Yard copy, int group) {
        int p = group / 1000 % 10;
        int q = group / 100 % 10;
        int lastTwo = group % 100;
        switch (group / 10000) {
            case 1: return q == 0 && copy.obey('l', p, lastTwo);
            case 2: return group % 1000 == 0 && copy.obey('d', p, 0);
            case 3: return lastTwo == 0 && copy.obey('k', group / 100 % 100, 0);
            case 4: return lastTwo == 0 && copy.obey('j', p, q);
            case 5: return p <= 1 && q == 0 && copy.obey(p == 0 ? 'w' : 'r', lastTwo, 0);
            case 6: return group % 1000 == 0 && copy.obey('m', p, 0);
            case 7: return q == 0 && copy.hasPile(p) && copy.logsIn(p) >= lastTwo;
            case 8: return group % 10 == 0 && copy.isTop(p, group / 10 % 100);
            case 9: return q == 0 && copy.hasPile(p) && copy.offIn(p) <= lastTwo;
            default: return false;
        }
    }

    private static char letterOfTurn(int kind) {
        switch (kind) {
            case 0: return 'p';
            case 1: case 2: case 3: case 4: case 5: return 'l';
            case 6: case 7: return 'd';
            case 8: return 'k';
            case 9: return 'j';
            case 10: return 'c';
            case 11: return 'w';
            case 12: return 'r';
            case 13: return 'm';
            default: return 'n';
        }
    }

    private static int firstOfTurn(int kind, int q) {
        switch (kind) {
            case 8: return q % 24;
            case 11: case 12: return 1 + q % 30;
            case 14: case 15: return 1 + q % 3;
            default: return q % 4;
        }
    }

    private static int secondOfTurn(int kind, int q) {
        switch (kind) {
            case 9: return q / 4 % 4;
            case 10: return q / 4 % 2;
            default: return q / 4 % 100;
        }
    }

    // ---- rows

    private static int get(int[] row, int i) {
        return i >= 0 && i < row.length ? row[i] : NONE;
    }

    /** A place that does not exist takes nothing, so that a link to no log needs no test of its own. */
    private static void put(int[] row, int i, int value) {
        if (i >= 0 && i < row.length) {
            row[i] = value;
        }
    }

    private static void fill(int[] row, int value) {
        for (int i = 0; i < row.length; i++) {
            row[i] = value;
        }
    }

    private static void copyRow(int[] from, int[] to) {
        for (int i = 0; i < from.length && i < to.length; i++) {
            to[i] = from[i];
        }
    }

    private static Yard yardAt(Yard[] row, int i) {
        return i >= 0 && i < row.length ? row[i] : null;
    }

    /** The whole state: what undo and the save slots give back. Its callers look at piles and logs first. */
    private static final class Yard {
        final int[] damp;
        final int[] home;
        final int[] above;
        final int[] left;
        final int[] right;
        final int[] tops;
        final int[] covers;
        int piles;
        int came;
        int burnt;
        int takenOut;
        int lifts;
        int heat;
        int smoked;
        int coldNights;
        int refused;
        int limit;

        Yard() {
            damp = new int[MAX_LOGS];
            home = new int[MAX_LOGS];
            above = new int[MAX_LOGS];
            left = new int[MAX_LOGS];
            right = new int[MAX_LOGS];
            tops = new int[MAX_PILES];
            covers = new int[MAX_PILES];
            clear();
        }

        void clear() {
            fill(damp, 0);
            fill(home, NONE);
            fill(above, NONE);
            fill(left, NONE);
            fill(right, NONE);
            fill(tops, NONE);
            fill(covers, 0);
            piles = 0;
            came = 0;
            burnt = 0;
            takenOut = 0;
            lifts = 0;
            heat = 0;
            smoked = 0;
            coldNights = 0;
            refused = 0;
            limit = FIRST_LIMIT;
        }

        void copyFrom(Yard other) {
            copyRow(other.damp, damp);
            copyRow(other.home, home);
            copyRow(other.above, above);
            copyRow(other.left, left);
            copyRow(other.right, right);
            copyRow(other.tops, tops);
            copyRow(other.covers, covers);
            piles = other.piles;
            came = other.came;
            burnt = other.burnt;
            takenOut = other.takenOut;
            lifts = other.lifts;
            heat = other.heat;
            smoked = other.smoked;
            coldNights = other.coldNights;
            refused = other.refused;
            limit = other.limit;
        }

        boolean hasPile(int p) {
            return p >= 0 && p < piles;
        }

        boolean hasTwoPiles(int p, int q) {
            return hasPile(p) && hasPile(q) && p != q;
        }

        boolean hasLog(int l) {
            return get(home, l) != NONE;
        }

        boolean hasRoomForPile() {
            return piles < MAX_PILES;
        }

        boolean hasRoomForLog() {
            return came < MAX_LOGS;
        }

        int topOf(int p) {
            return get(tops, p);
        }

        boolean isTop(int p, int l) {
            return hasPile(p) && hasLog(l) && topOf(p) == l;
        }

        int dampOfTop(int p) {
            return get(damp, topOf(p));
        }

        boolean isCovered(int p) {
            return get(covers, p) == 1;
        }

        int logsIn(int p) {
            int logs = 0;
            for (int l = 0; l < MAX_LOGS; l++) {
                if (home[l] == p) {
                    logs++;
                }
            }
            return logs;
        }

        int logsInAll() {
            return came - burnt - takenOut;
        }

        int dampIn(int p) {
            int sum = 0;
            for (int l = 0; l < MAX_LOGS; l++) {
                if (home[l] == p) {
                    sum += damp[l];
                }
            }
            return sum;
        }

        int dampInAll() {
            int sum = 0;
            for (int p = 0; p < piles; p++) {
                sum += dampIn(p);
            }
            return sum;
        }

        int offIn(int p) {
            int off = 0;
            for (int l = 0; l < MAX_LOGS; l++) {
                if (home[l] == p && above[l] != NONE && comesAhead(l, above[l])) {
                    off++;
                }
            }
            return off;
        }

        int offInAll() {
            int off = 0;
            for (int p = 0; p < piles; p++) {
                off += offIn(p);
            }
            return off;
        }

        int greatestDepth(int p) {
            int greatest = NONE;
            for (int l = 0; l < MAX_LOGS; l++) {
                if (home[l] == p) {
                    int depth = depthOf(l);
                    greatest = depth > greatest ? depth : greatest;
                }
            }
            return greatest;
        }

        int whyNotDrawn(int p) {
            if (topOf(p) == NONE) {
                return 1;
            }
            return offIn(p) > 0 ? 2 : 0;
        }

        int depthOf(int l) {
            int depth = 0;
            int upper = get(above, l);
            for (int i = 0; i < MAX_LOGS && upper != NONE; i++) {
                depth++;
                upper = get(above, upper);
            }
            return depth;
        }

        int logsUnder(int l) {
            int logs = 0;
            for (int other = 0; other < MAX_LOGS; other++) {
                if (home[other] != NONE && liesUnder(other, l)) {
                    logs++;
                }
            }
            return logs;
        }

        private boolean liesUnder(int l, int wanted) {
            int upper = get(above, l);
            for (int i = 0; i < MAX_LOGS && upper != NONE && upper != wanted; i++) {
                upper = get(above, upper);
            }
            return upper == wanted;
        }

        private boolean comesAhead(int a, int b) {
            if (a < 0 || a >= MAX_LOGS || b < 0 || b >= MAX_LOGS) {
                return false;
            }
            return damp[a] < damp[b] || damp[a] == damp[b] && a < b;
        }

        int rankedFromTop(int p, int rank) {
            int next = topOf(p);
            int found = 0;
            for (int i = 0; i < rank && i < MAX_LOGS; i++) {
                found |= 1 << next;
                next = firstDirectlyUnder(found);
            }
            return next;
        }

        /** The logs found are the bits of a number, so that no row has to be made for them. */
        private int firstDirectlyUnder(int found) {
            int best = NONE;
            for (int l = 0; l < MAX_LOGS; l++) {
                boolean open = (found >> l & 1) == 0 && above[l] != NONE && (found >> above[l] & 1) == 1;
                if (open && (best == NONE || comesAhead(l, best))) {
                    best = l;
                }
            }
            return best;
        }

        int rankedByAll(int p, int rank) {
            for (int l = 0; l < MAX_LOGS; l++) {
                if (home[l] == p && logsAheadOf(l, p) == rank) {
                    return l;
                }
            }
            return NONE;
        }

        private int logsAheadOf(int l, int p) {
            int ahead = 0;
            for (int other = 0; other < MAX_LOGS; other++) {
                if (home[other] == p && comesAhead(other, l)) {
                    ahead++;
                }
            }
            return ahead;
        }

        int addPile() {
            int p = piles;
            piles++;
            return p;
        }

        int addLog(int p, int itsDamp) {
            int l = came;
            came++;
            put(damp, l, itsDamp);
            put(home, l, p);
            comeInto(p, l);
            return l;
        }

        private void comeInto(int p, int l) {
            put(tops, p, joinTrees(topOf(p), l));
        }

        /** Goes down from log to log instead of calling itself; with 24 logs there are fewer than 24 lifts. */
        private int joinTrees(int a, int b) {
            int one = a;
            int other = b;
            int top = NONE;
            int last = NONE;
            for (int i = 0; i < MAX_LOGS && one != NONE && other != NONE; i++) {
                lifts++;
                int ahead = comesAhead(one, other) ? one : other;
                other = ahead == one ? other : one;
                one = get(right, ahead);
                put(right, ahead, get(left, ahead));
                put(left, last, ahead);
                put(above, ahead, last);
                top = top == NONE ? ahead : top;
                last = ahead;
            }
            int rest = one == NONE ? other : one;
            put(left, last, rest);
            put(above, rest, last);
            return top == NONE ? rest : top;
        }

        /** What is joined from both sides takes the very place of the log. */
        private int removeLog(int l) {
            int before = lifts;
            int upper = get(above, l);
            int joined = joinTrees(get(left, l), get(right, l));
            put(above, joined, upper);
            if (upper == NONE) {
                put(tops, get(home, l), joined);
            } else if (get(left, upper) == l) {
                put(left, upper, joined);
            } else {
                put(right, upper, joined);
            }
            put(home, l, NONE);
            unlink(l);
            return lifts - before;
        }

        private void unlink(int l) {
            put(above, l, NONE);
            put(left, l, NONE);
            put(right, l, NONE);
        }

        int takeAway(int l) {
            takenOut++;
            return removeLog(l);
        }

        int burnTop(int p) {
            int itsDamp = dampOfTop(p);
            burnt++;
            if (itsDamp <= limit) {
                heat += 100 - itsDamp;
            } else {
                smoked++;
            }
            return removeLog(topOf(p));
        }

        int drawEmpty(int p) {
            int before = lifts;
            for (int i = 0; i < MAX_LOGS && whyNotDrawn(p) == 0; i++) {
                burnTop(p);
            }
            return lifts - before;
        }

        int joinPiles(int p, int q) {
            int before = lifts;
            put(tops, p, joinTrees(topOf(p), topOf(q)));
            put(tops, q, NONE);
            for (int l = 0; l < MAX_LOGS; l++) {
                if (home[l] == q) {
                    home[l] = p;
                }
            }
            return lifts - before;
        }

        boolean changeCover(int p, boolean on) {
            boolean was = isCovered(p);
            put(covers, p, on ? 1 : 0);
            return was;
        }

        void letWindBlow(int w) {
            for (int l = 0; l < MAX_LOGS; l++) {
                if (home[l] != NONE) {
                    int by = isCovered(home[l]) ? w / 4 : depthOf(l) <= 1 ? w : w / 2;
                    damp[l] = Math.max(0, damp[l] - by);
                }
            }
        }

        void letRainFall(int w) {
            for (int l = 0; l < MAX_LOGS; l++) {
                if (home[l] != NONE && !isCovered(home[l])) {
                    int by = depthOf(l) <= 1 ? w : w / 3;
                    damp[l] = Math.min(MAX_DAMP, damp[l] + by);
                }
            }
        }

        int mendPile(int p) {
            int before = lifts;
            put(tops, p, NONE);
            for (int l = 0; l < MAX_LOGS; l++) {
                if (home[l] == p) {
                    unlink(l);
                    comeInto(p, l);
                }
            }
            return lifts - before;
        }

        int passNights(int n) {
            int before = heat;
            for (int night = 0; night < n; night++) {
                int p = driestToDraw();
                if (p == NONE) {
                    coldNights++;
                } else {
                    burnTop(p);
                }
            }
            return heat - before;
        }

        private int driestToDraw() {
            int best = NONE;
            for (int p = 0; p < piles; p++) {
                if (whyNotDrawn(p) == 0 && (best == NONE || dampOfTop(p) < dampOfTop(best))) {
                    best = p;
                }
            }
            return best;
        }

        /** Does what a letter of the text means; false if the method would throw, or the pile is not drawn. */
        boolean obey(int letter, int a, int b) {
            if (!canObey(letter, a, b)) {
                return false;
            }
            switch (letter) {
                case 'p': addPile(); break;
                case 'l': addLog(a, b); break;
                case 'd': burnTop(a); break;
                case 'k': takeAway(a); break;
                case 'j': joinPiles(a, b); break;
                case 'c': changeCover(a, b == 1); break;
                case 'w': letWindBlow(a); break;
                case 'r': letRainFall(a); break;
                case 'm': mendPile(a); break;
                default: passNights(a); break;
            }
            return true;
        }

        private boolean canObey(int letter, int a, int b) {
            switch (letter) {
                case 'p': return hasRoomForPile();
                case 'l': return hasPile(a) && isDamp(b) && hasRoomForLog();
                case 'd': return hasPile(a) && whyNotDrawn(a) == 0;
                case 'k': return hasLog(a);
                case 'j': return hasTwoPiles(a, b);
                case 'c': case 'm': return hasPile(a);
                case 'w': case 'r': return isWeather(a);
                case 'n': return a >= 1 && a <= MAX_NIGHTS;
                default: return false;
            }
        }
    }

    /** The states behind which undo can go back, the oldest of them written over when there are too many. */
    private static final class Memory {
        private final Yard[] states;
        private int oldest;
        private int count;

        Memory() {
            states = new Yard[MAX_REMEMBERED];
            for (int i = 0; i < states.length; i++) {
                states[i] = new Yard();
            }
        }

        boolean isEmpty() {
            return count == 0;
        }

        void forget() {
            count = 0;
        }

        void keep(Yard yard) {
            if (count == MAX_REMEMBERED) {
                oldest = (oldest + 1) % MAX_REMEMBERED;
                count--;
            }
            Yard free = yardAt(states, (oldest + count) % MAX_REMEMBERED);
            if (free != null) {
                free.copyFrom(yard);
                count++;
            }
        }

        int giveBack(Yard yard) {
            count--;
            Yard newest = yardAt(states, (oldest + count) % MAX_REMEMBERED);
            if (newest != null) {
                yard.copyFrom(newest);
            }
            return count;
        }
    }

    private static final class Slot {
        final Yard state;
        boolean filled;

        Slot() {
            state = new Yard();
        }
    }

    /** The text buffer, and a reader that stops at the first character that is not allowed. */
    private static final class Text {
        private final char[] signs;
        private int length;
        private int at;
        int letter;
        int first;
        int second;

        Text() {
            signs = new char[MAX_TEXT];
        }

        boolean isFull() {
            return length >= MAX_TEXT;
        }

        int add(char sign) {
            if (length >= 0 && length < signs.length) {
                signs[length] = sign;
                length++;
            }
            return length;
        }

        int empty() {
            int previous = length;
            length = 0;
            return previous;
        }

        int firstWrong() {
            if (!begin()) {
                return at;
            }
            for (int i = 0; i < MAX_TEXT && hasMore(); i++) {
                if (!readCommand()) {
                    return at;
                }
            }
            return NONE;
        }

        boolean begin() {
            at = 0;
            if (signAhead() != 'O') {
                return false;
            }
            at++;
            return true;
        }

        boolean hasMore() {
            return at < length;
        }

        private int signAhead() {
            return at >= 0 && at < length && at < signs.length ? signs[at] : NONE;
        }

        /** Behind a false answer the reader stands at the character that is not allowed, or at the end. */
        boolean readCommand() {
            int start = at;
            letter = signAhead();
            first = 0;
            second = 0;
            at = start + 1;
            switch (letter) {
                case 'p': return true;
                case 'l': return readPile() && readSecond(2, 0, MAX_DAMP);
                case 'd': case 'm': return readPile();
                case 'k': return readFirst(2, 0, MAX_LOGS - 1);
                case 'j': return readPile() && readSecond(1, 0, MAX_PILES - 1);
                case 'c': return readPile() && readCover();
                case 'w': case 'r': return readFirst(2, 1, MAX_WEATHER);
                case 'n': return readFirst(1, 1, MAX_NIGHTS);
                default:
                    at = start;
                    return false;
            }
        }

        private boolean readPile() {
            return readFirst(1, 0, MAX_PILES - 1);
        }

        private boolean readFirst(int width, int low, int high) {
            first = readNumber(width, low, high);
            return first != NONE;
        }

        private boolean readSecond(int width, int low, int high) {
            second = readNumber(width, low, high);
            return second != NONE;
        }

        private boolean readCover() {
            int sign = signAhead();
            if (sign != '+' && sign != '-') {
                return false;
            }
            at++;
            second = sign == '+' ? 1 : 0;
            return true;
        }

        /** A digit is let in only if an allowed number begins so: it spans the numbers that can follow. */
        private int readNumber(int width, int low, int high) {
            int value = 0;
            int span = width == 2 ? 10 : 1;
            for (int i = 0; i < width; i++) {
                int digit = signAhead() - '0';
                if (digit < 0 || digit > 9) {
                    return NONE;
                }
                value = value * 10 + digit;
                if (value * span + span - 1 < low || value * span > high) {
                    return NONE;
                }
                at++;
                span /= 10;
            }
            return value;
        }
    }
}
