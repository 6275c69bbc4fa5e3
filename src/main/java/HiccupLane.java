/** A lane in which whoever is named has hiccups till he says who named him. */
public final class HiccupLane {
    public static final int NONE = -1;

    private static final int MOST_PERSONS = 14;
    private static final int MOST_NERVE = 9;
    private static final int MOST_HICCUPS = 99;
    private static final int LAST_MINUTE = 9999;
    private static final int MOST_MINUTES = 60;
    private static final int MOST_LINES = 16;
    private static final int MOST_NAMES = 6;
    private static final int MOST_OPEN = 8;
    private static final int TAPE_LENGTH = 400;
    private static final int BOOK_LINES = 150;
    private static final int BOOK_WIDTH = 4;
    private static final int KEPT = 6;

    private static final int NAMED = 0;
    private static final int STOPPED = 1;
    private static final int IN_VAIN = 2;
    private static final int FOUND_OUT = 3;
    private static final int HANDED_ON = 4;
    private static final int A_FRIGHT = 5;
    private static final int NO_NAME_LEFT = 6;

    private final World world;
    private final World kept;
    private boolean hasImage;
    private final Lane thought;
    private final Lane[] past;
    private int pastCount;
    private int pastNext;
    private final Parser parser;
    private final Thinker thinker;

    public HiccupLane() {
        world = new World();
        kept = new World();
        hasImage = false;
        thought = new Lane(true);
        past = new Lane[KEPT];
        for (int i = 0; i < KEPT; i++) {
            past[i] = new Lane(false);
        }
        pastCount = 0;
        pastNext = 0;
        parser = new Parser();
        thinker = new Thinker();
    }

    public int state(int v) {
        int before = world.lane.draws;
        world.lane.draws = v;
        forget();
        return before;
    }

    public int person(int nerve) {
        if (nerve < 0 || nerve > MOST_NERVE || world.lane.persons >= MOST_PERSONS) {
            return NONE;
        }
        forget();
        return world.lane.welcome(nerve);
    }

    public boolean set(int what, int who, int v) {
        Lane lane = world.lane;
        if (!lane.has(who) || v < 0) {
            return false;
        }
        if (what == 0 && v <= MOST_NERVE) {
            lane.nerve[who] = v;
        } else if (what == 1 && v <= MOST_HICCUPS) {
            lane.hiccup(who, v);
        } else {
            return false;
        }
        forget();
        return true;
    }

    public boolean act(int what, int who, int v) {
        if (!canAct(what, who, v)) {
            return false;
        }
        keep();
        switch (what) {
            case 0:
                world.nameOne(world.lane, who, v);
                break;
            case 1:
                world.frighten(world.lane, who);
                break;
            case 2:
                world.handOn(world.lane, who, v);
                break;
            default:
                world.speak(world.lane, who);
                break;
        }
        return true;
    }

    public int minutes(int n) {
        if (n < 1 || n > MOST_MINUTES || world.lane.minute + n > LAST_MINUTE) {
            return NONE;
        }
        int foundOut = 0;
        for (int i = 0; i < n; i++) {
            keep();
            foundOut += world.passMinute(world.lane);
        }
        return foundOut;
    }

    public int feed(int a, int b, int c, int d, int e) {
        Reader reader = parser.reader;
        if (!reader.hasSpace(20)) {
            return NONE;
        }
        reader.put(a);
        reader.put(b);
        reader.put(c);
        reader.put(d);
        reader.put(e);
        return reader.length;
    }

    public boolean end(int n) {
        return parser.reader.cut(n);
    }

    public int text(int k) {
        parser.begin(world.lane.persons);
        int lines = NONE;
        switch (k) {
            case 0:
                lines = parser.readLaw(world.law);
                break;
            case 1:
                lines = parser.readPlan(world.talk, false);
                break;
            case 2:
                lines = parser.readPlan(world.cures, true);
                break;
            case 3:
                lines = parser.readOrders(world.orders);
                break;
            default:
                break;
        }
        parser.reader.cut(0);
        if (lines != NONE && (k == 1 || k == 2)) {
            forget();
        }
        return lines;
    }

    public int fault(int what) {
        if (what == 0) {
            return parser.flaw;
        }
        return what == 1 ? parser.flawPlace : NONE;
    }

    public int of(int person, int what) {
        if (!world.lane.has(person)) {
            return NONE - 1;
        }
        if (what >= 20 && what < 20 + MOST_PERSONS) {
            return world.orders.nameAt(person, what - 20, world.lane.persons);
        }
        if (what >= 0 && what <= 6) {
            return world.lane.told(person, what);
        }
        if (what >= 7 && what <= 9) {
            return world.law.ask(what - 7, world.lane, person);
        }
        return what == 10 ? world.nextName(world.lane, person) : NONE - 1;
    }

    public int book(int i, int what) {
        if (i < 0 || i >= world.lane.bookLines || what < 0 || what >= BOOK_WIDTH) {
            return NONE;
        }
        return world.bookRows[i * BOOK_WIDTH + what];
    }

    public int goes(int n, int what) {
        if (n < 1 || n > MOST_MINUTES || what < 0 || what > 3) {
            return NONE;
        }
        thought.copyFrom(world.lane);
        for (int i = 0; i < n; i++) {
            world.passMinute(thought);
        }
        switch (what) {
            case 0:
                return thought.sum(thought.hiccups);
            case 1:
                return thought.sum(thought.found);
            case 2:
                return thought.sum(thought.named);
            default:
                return thought.calm;
        }
    }

    public int peace() {
        thought.copyFrom(world.lane);
        for (int i = 0; i < MOST_MINUTES; i++) {
            if (thought.havers() == 0) {
                return i;
            }
            world.passMinute(thought);
        }
        return thought.havers() == 0 ? MOST_MINUTES : NONE;
    }

    public int back(int person) {
        return world.lane.has(person) ? world.lane.stepsBack(person) : NONE;
    }

    public int breath(int v) {
        Row row = world.rows.breaths;
        if (v == NONE - 99) {
            return row.clear();
        }
        if (v < -50 || v > 50 || row.isFull()) {
            return NONE - 99;
        }
        return row.add(v);
    }

    public int held(int what) {
        if (what < 0 || what > 1) {
            return NONE - 999;
        }
        return thinker.greatestSum(world.rows.breaths, what == 1);
    }

    public int least(int i, int what) {
        Row row = world.rows.breaths;
        if (i < 0 || i >= row.count) {
            return NONE;
        }
        int right = thinker.lessToRight(row, i);
        switch (what) {
            case 0:
                return thinker.lessToLeft(row, i, false);
            case 1:
                return right < row.count ? right : NONE;
            case 2:
                return (i - thinker.lessToLeft(row, i, true)) * (right - i);
            default:
                return NONE;
        }
    }

    public int heads(int n, int what) {
        if (n < 0 || n > 99999) {
            return NONE;
        }
        switch (what) {
            case 0:
                return Numbers.turned(n);
            case 1:
                return Numbers.evenTurnedAbove(n);
            case 2:
                return Numbers.evenTurnedUpTo(n);
            default:
                return NONE;
        }
    }

    public int said(int n, int d) {
        if (n < 1 || n > 9999 || d < 0 || d > 9) {
            return NONE;
        }
        return Numbers.digitCount(n, d);
    }

    public int digit(int n, int k) {
        if (n < 1 || n > 9999 || k < 0) {
            return NONE;
        }
        return Numbers.digitAt(n, k);
    }

    public int call(int a, int b, int worth) {
        Rows rows = world.rows;
        if (a == NONE) {
            rows.callFrom.clear();
            rows.callTo.clear();
            return rows.callWorth.clear();
        }
        if (a < 0 || b > 99 || a >= b || worth < 1 || worth > 99 || rows.callFrom.isFull()) {
            return NONE;
        }
        rows.callFrom.add(a);
        rows.callTo.add(b);
        return rows.callWorth.add(worth);
    }

    public int calls(int what) {
        switch (what) {
            case 0:
                return thinker.greatestWorth(world.rows);
            case 1:
                return thinker.fewestCalls(world.rows);
            case 2:
                return thinker.minutesInCalls(world.rows);
            case 3:
                return thinker.callsAtOnce(world.rows);
            default:
                return NONE;
        }
    }

    public int hics(int k, int n, int what) {
        if (k < 0 || n < 1 || n > 30 || k > n) {
            return NONE;
        }
        if (what == 100) {
            return Numbers.longestWay(k, n);
        }
        if (what < 0 || what >= n) {
            return NONE;
        }
        return Numbers.hasBeat(k, n, what) ? 1 : 0;
    }

    public int way(int a, int b, int c) {
        Rows rows = world.rows;
        if (a == NONE) {
            rows.wayFrom.clear();
            rows.wayTo.clear();
            return rows.wayMost.clear();
        }
        if (!areTwoPlaces(a, b) || c < 1 || c > 20 || rows.wayFrom.isFull()) {
            return NONE;
        }
        rows.wayFrom.add(a);
        rows.wayTo.add(b);
        return rows.wayMost.add(c);
    }

    public int gossip(int a, int b, int what) {
        if (!areTwoPlaces(a, b) || what < 0 || what > 1) {
            return NONE;
        }
        return thinker.leastCut(world.rows, a, b, what == 1);
    }

    public int term(int which, int v) {
        if (which < 0 || which > 1) {
            return NONE;
        }
        Row row = world.rows.termRow(which);
        if (v == NONE - 9) {
            return row.clear();
        }
        if (v < -9 || v > 9 || row.isFull()) {
            return NONE;
        }
        return row.add(v);
    }

    public int terms(int which, int x) {
        if (which < 0 || which > 1 || x < -9 || x > 9) {
            return NONE - 9999999;
        }
        return thinker.valueAt(world.rows.termRow(which), x);
    }

    public int product(int which) {
        if (which == 0 || which == 1) {
            return thinker.zeros(world.rows.termRow(which));
        }
        if (which < 10 || which > 20) {
            return NONE - 9999999;
        }
        return thinker.productTerm(world.rows.firstTerms, world.rows.secondTerms, which - 10);
    }

    public int tongues(int n, int b, int what) {
        if (n < 1 || n > 9999 || what < 0 || what > 2) {
            return NONE;
        }
        if (what == 2) {
            return Numbers.leastAlikeBase(n);
        }
        if (b < 2 || b > 16) {
            return NONE;
        }
        if (what == 0) {
            return Numbers.digitSum(n, b);
        }
        return Numbers.readsAlike(n, b) ? 1 : 0;
    }

    public int squares(int n, int what) {
        if (n < 1 || n > 9999 || what < 0 || what > 1) {
            return NONE;
        }
        return what == 0 ? Numbers.fewestSquares(n) : Numbers.waysOfTwoSquares(n);
    }

    public int kin(int v) {
        return tell(world.rows.kinRow, v, 0, 7);
    }

    public int tree(int v, int u, int what) {
        Row row = world.rows.kinRow;
        int most = row.count + 1;
        if (v < 0 || v > most || what < 0 || what > 1 || !thinker.growTree(row)) {
            return NONE;
        }
        if (what == 0) {
            return thinker.joinedTo(v, most + 1);
        }
        return u < 0 || u > most ? NONE : thinker.joiningsBetween(v, u);
    }

    public int step(int v) {
        return tell(world.rows.badSteps, v, 1, 40);
    }

    public int stair(int n, int k, int what) {
        if (n < 0 || n > 40 || k < 1 || k > 6 || what < 0 || what > 1) {
            return NONE;
        }
        return what == 0 ? thinker.waysUp(world.rows.badSteps, n, k)
                : thinker.fewestGoings(world.rows.badSteps, n, k);
    }

    public int heap(int v) {
        return tell(world.rows.heaps, v, 0, 15);
    }

    public int game() {
        return thinker.winningMove(world.rows.heaps);
    }

    public boolean undo() {
        if (pastCount == 0) {
            return false;
        }
        pastNext = pastNext == 0 ? KEPT - 1 : pastNext - 1;
        pastCount--;
        world.lane.copyFrom(past[pastNext]);
        return true;
    }

    public boolean image(boolean taken) {
        if (taken) {
            kept.copyFrom(world);
            hasImage = true;
            return true;
        }
        if (!hasImage) {
            return false;
        }
        world.copyFrom(kept);
        forget();
        return true;
    }

    public int look(int what) {
        switch (what) {
            case 0:
                return world.lane.persons;
            case 1:
                return world.lane.havers();
            case 2:
                return world.lane.calm;
            case 3:
                return world.lane.minute;
            case 4:
                return world.lane.bookLines;
            case 5:
                return world.lane.draws;
            case 6:
                return world.law.count;
            case 7:
                return world.talk.count;
            case 8:
                return world.cures.count;
            case 9:
                return world.orders.count;
            case 10:
                return pastCount;
            default:
                return NONE - 99999;
        }
    }

    private boolean canAct(int what, int who, int v) {
        Lane lane = world.lane;
        if (!lane.has(who)) {
            return false;
        }
        boolean toAnother = lane.has(v) && v != who;
        switch (what) {
            case 0:
                return toAnother;
            case 1:
            case 3:
                return lane.hiccups[who] > 0;
            case 2:
                return toAnother && lane.hiccups[who] > 0;
            default:
                return false;
        }
    }

    private void keep() {
        past[pastNext].copyFrom(world.lane);
        pastNext = pastNext == KEPT - 1 ? 0 : pastNext + 1;
        pastCount = Math.min(KEPT, pastCount + 1);
    }

    private void forget() {
        pastCount = 0;
    }

    private static boolean areTwoPlaces(int a, int b) {
        return a >= 0 && a <= 5 && b >= 0 && b <= 5 && a != b;
    }

    private static int tell(Row row, int v, int least, int most) {
        if (v == NONE) {
            return row.clear();
        }
        return v < least || v > most || row.isFull() ? NONE : row.add(v);
    }

    /** A row of numbers told one by one, up to a length that stands from the beginning. */
    private static final class Row {
        private final int[] items;
        int count;

        Row(int most) {
            items = new int[Math.max(0, most)];
            count = 0;
        }

        boolean isFull() {
            return count >= items.length;
        }

        int add(int v) {
            if (!isFull()) {
                items[count] = v;
                count++;
            }
            return count;
        }

        int at(int place) {
            return place >= 0 && place < count ? items[place] : 0;
        }

        int clear() {
            count = 0;
            return count;
        }

        void copyFrom(Row other) {
            for (int i = 0; i < other.count && i < items.length; i++) {
                items[i] = other.items[i];
            }
            count = Math.min(other.count, items.length);
        }
    }

    /** All that is told for thought. */
    private static final class Rows {
        final Row breaths;
        final Row callFrom;
        final Row callTo;
        final Row callWorth;
        final Row wayFrom;
        final Row wayTo;
        final Row wayMost;
        final Row firstTerms;
        final Row secondTerms;
        final Row kinRow;
        final Row badSteps;
        final Row heaps;

        Rows() {
            breaths = new Row(16);
            callFrom = new Row(10);
            callTo = new Row(10);
            callWorth = new Row(10);
            wayFrom = new Row(14);
            wayTo = new Row(14);
            wayMost = new Row(14);
            firstTerms = new Row(6);
            secondTerms = new Row(6);
            kinRow = new Row(6);
            badSteps = new Row(8);
            heaps = new Row(4);
        }

        Row termRow(int which) {
            return which == 0 ? firstTerms : secondTerms;
        }

        void copyFrom(Rows other) {
            breaths.copyFrom(other.breaths);
            callFrom.copyFrom(other.callFrom);
            callTo.copyFrom(other.callTo);
            callWorth.copyFrom(other.callWorth);
            wayFrom.copyFrom(other.wayFrom);
            wayTo.copyFrom(other.wayTo);
            wayMost.copyFrom(other.wayMost);
            firstTerms.copyFrom(other.firstTerms);
            secondTerms.copyFrom(other.secondTerms);
            kinRow.copyFrom(other.kinRow);
            badSteps.copyFrom(other.badSteps);
            heaps.copyFrom(other.heaps);
        }
    }

    /** What is asked of rows that are told. */
    private static final class Thinker {
        private static final int MODULUS = 1000000007;
        // A call counts a little less than its worth here, so that of like sums the one of fewer calls is more.
        private static final int WORTH_UNIT = 16;
        private static final int MOST_STAIR = 40;
        private static final int MOST_KIN = 8;

        private final int[] bestTill;
        private final int[] stairRow;
        private final boolean[] isBad;
        private final int[] parent;

        Thinker() {
            bestTill = new int[100];
            stairRow = new int[MOST_STAIR + 1];
            isBad = new boolean[MOST_STAIR + 1];
            parent = new int[MOST_KIN];
        }

        int greatestSum(Row row, boolean leavingOne) {
            if (row.count == 0) {
                return 0;
            }
            int best = row.at(0);
            for (int from = 0; from < row.count; from++) {
                int sum = 0;
                int least = row.at(from);
                for (int till = from; till < row.count; till++) {
                    sum += row.at(till);
                    least = Math.min(least, row.at(till));
                    best = Math.max(best, sum);
                    if (leavingOne && till > from) {
                        best = Math.max(best, sum - least);
                    }
                }
            }
            return best;
        }

        int lessToLeft(Row row, int place, boolean orAlike) {
            for (int i = place - 1; i >= 0; i--) {
                if (row.at(i) < row.at(place) || orAlike && row.at(i) == row.at(place)) {
                    return i;
                }
            }
            return NONE;
        }

        /** Behind the row's end, if none is less. */
        int lessToRight(Row row, int place) {
            for (int i = place + 1; i < row.count; i++) {
                if (row.at(i) < row.at(place)) {
                    return i;
                }
            }
            return row.count;
        }

        int greatestWorth(Rows rows) {
            return (bestCalls(rows) + WORTH_UNIT - 1) / WORTH_UNIT;
        }

        int fewestCalls(Rows rows) {
            int best = bestCalls(rows);
            return (best + WORTH_UNIT - 1) / WORTH_UNIT * WORTH_UNIT - best;
        }

        private int bestCalls(Rows rows) {
            bestTill[0] = 0;
            for (int till = 1; till < bestTill.length; till++) {
                int best = bestTill[till - 1];
                for (int i = 0; i < rows.callTo.count; i++) {
                    int from = rows.callFrom.at(i);
                    if (rows.callTo.at(i) == till && from >= 0 && from < till) {
                        best = Math.max(best, bestTill[from] + rows.callWorth.at(i) * WORTH_UNIT - 1);
                    }
                }
                bestTill[till] = best;
            }
            return bestTill[bestTill.length - 1];
        }

        int minutesInCalls(Rows rows) {
            int minutes = 0;
            for (int minute = 0; minute < 100; minute++) {
                if (callsIn(rows, minute) > 0) {
                    minutes++;
                }
            }
            return minutes;
        }

        int callsAtOnce(Rows rows) {
            int most = 0;
            for (int minute = 0; minute < 100; minute++) {
                most = Math.max(most, callsIn(rows, minute));
            }
            return most;
        }

        private int callsIn(Rows rows, int minute) {
            int calls = 0;
            for (int i = 0; i < rows.callFrom.count; i++) {
                if (rows.callFrom.at(i) <= minute && minute < rows.callTo.at(i)) {
                    calls++;
                }
            }
            return calls;
        }

        /** As much goes through as the least cut lets, so all cuts of the six places are tried. */
        int leastCut(Rows rows, int a, int b, boolean countWays) {
            int least = 14 * 20;
            for (int side = 0; side < 64; side++) {
                if ((side >> a & 1) == 1 && (side >> b & 1) == 0) {
                    least = Math.min(least, cut(rows, side, countWays));
                }
            }
            return least;
        }

        private int cut(Rows rows, int side, boolean countWays) {
            int sum = 0;
            for (int i = 0; i < rows.wayFrom.count; i++) {
                boolean leaves = (side >> rows.wayFrom.at(i) & 1) == 1 && (side >> rows.wayTo.at(i) & 1) == 0;
                if (leaves) {
                    sum += countWays ? 1 : rows.wayMost.at(i);
                }
            }
            return sum;
        }

        int valueAt(Row row, int x) {
            int value = 0;
            for (int i = row.count - 1; i >= 0; i--) {
                value = value * x + row.at(i);
            }
            return value;
        }

        int zeros(Row row) {
            int zeros = 0;
            for (int x = -9; x <= 9; x++) {
                if (valueAt(row, x) == 0) {
                    zeros++;
                }
            }
            return zeros;
        }

        int productTerm(Row first, Row second, int power) {
            int sum = 0;
            for (int i = 0; i < first.count; i++) {
                int j = power - i;
                if (j >= 0 && j < second.count) {
                    sum += first.at(i) * second.at(j);
                }
            }
            return sum;
        }

        /** Each one that is left no more has as parent the one it was joined to; false, if one told is not there. */
        boolean growTree(Row row) {
            int all = row.count + 2;
            if (all > MOST_KIN || !areBelow(row, all)) {
                return false;
            }
            int left = (1 << all) - 1;
            for (int at = 0; at < row.count; at++) {
                int leaf = leastFree(row, at, left);
                if (leaf == NONE) {
                    return false;
                }
                parent[leaf] = row.at(at);
                left &= ~(1 << leaf);
            }
            int low = leastFree(row, row.count, left);
            if (low == NONE) {
                return false;
            }
            int high = leastFree(row, row.count, left & ~(1 << low));
            if (high == NONE) {
                return false;
            }
            parent[low] = high;
            parent[high] = NONE;
            return true;
        }

        private static boolean areBelow(Row row, int all) {
            for (int i = 0; i < row.count; i++) {
                if (row.at(i) >= all) {
                    return false;
                }
            }
            return true;
        }

        private static int leastFree(Row row, int from, int left) {
            int free = left;
            for (int i = from; i < row.count; i++) {
                free &= ~(1 << row.at(i));
            }
            for (int i = 0; i < MOST_KIN; i++) {
                if ((free >> i & 1) == 1) {
                    return i;
                }
            }
            return NONE;
        }

        int joinedTo(int v, int all) {
            int joined = parent[v] == NONE ? 0 : 1;
            for (int i = 0; i < all; i++) {
                if (parent[i] == v) {
                    joined++;
                }
            }
            return joined;
        }

        /** The ways up from both meet first where the way between them turns. */
        int joiningsBetween(int v, int u) {
            int up = v;
            for (int i = 0; i < MOST_KIN && isKin(up); i++) {
                int other = u;
                for (int j = 0; j < MOST_KIN && isKin(other); j++) {
                    if (other == up) {
                        return i + j;
                    }
                    other = parent[other];
                }
                up = parent[up];
            }
            return NONE;
        }

        private static boolean isKin(int v) {
            return v >= 0 && v < MOST_KIN;
        }

        int waysUp(Row bad, int n, int k) {
            markBad(bad);
            stairRow[0] = 1;
            for (int i = 1; i <= n; i++) {
                int ways = 0;
                for (int j = Math.max(0, i - k); j < i && !isBad[i]; j++) {
                    ways = (int) (((long) ways + stairRow[j]) % MODULUS);
                }
                stairRow[i] = ways;
            }
            return stairRow[n];
        }

        int fewestGoings(Row bad, int n, int k) {
            markBad(bad);
            stairRow[0] = 0;
            for (int i = 1; i <= n; i++) {
                int fewest = NONE;
                for (int j = Math.max(0, i - k); j < i && !isBad[i]; j++) {
                    int goings = stairRow[j] == NONE ? NONE : stairRow[j] + 1;
                    if (goings != NONE && (fewest == NONE || goings < fewest)) {
                        fewest = goings;
                    }
                }
                stairRow[i] = fewest;
            }
            return stairRow[n];
        }

        private void markBad(Row bad) {
            for (int i = 0; i <= MOST_STAIR; i++) {
                isBad[i] = false;
            }
            for (int i = 0; i < bad.count; i++) {
                int place = bad.at(i);
                if (place >= 0 && place <= MOST_STAIR) {
                    isBad[place] = true;
                }
            }
        }

        int winningMove(Row heaps) {
            for (int i = 0; i < heaps.count; i++) {
                for (int take = 1; take <= heaps.at(i); take++) {
                    if (isLost(heaps, i, heaps.at(i) - take)) {
                        return 100 * i + take;
                    }
                }
            }
            return NONE;
        }

        /** Whether who is to take then loses, heap i having so many: the last one loses, so heaps of one turn it. */
        private static boolean isLost(Row heaps, int i, int left) {
            int together = 0;
            boolean isAnyAboveOne = false;
            for (int j = 0; j < heaps.count; j++) {
                int size = j == i ? left : heaps.at(j);
                together ^= size;
                isAnyAboveOne = isAnyAboveOne || size > 1;
            }
            return isAnyAboveOne ? together == 0 : together == 1;
        }
    }

    /** What is asked of numbers alone. */
    private static final class Numbers {
        private static final int[] TURNED = {0, 1, NONE, NONE, NONE, NONE, 9, NONE, 8, 6};
        // Halves of three digits make all that have six or fewer.
        private static final int HALVES = 1000;

        static int turned(int n) {
            int turned = 0;
            int rest = n;
            for (int i = 0; i < 6 && rest > 0; i++) {
                int digit = TURNED[rest % 10];
                if (digit == NONE) {
                    return NONE;
                }
                turned = turned * 10 + digit;
                rest /= 10;
            }
            return turned;
        }

        static int evenTurnedAbove(int n) {
            int least = NONE;
            for (int half = 0; half < HALVES; half++) {
                int odd = mirrored(half, true);
                if (odd > n && (least == NONE || odd < least)) {
                    least = odd;
                }
                int even = mirrored(half, false);
                if (even > n && (least == NONE || even < least)) {
                    least = even;
                }
            }
            return least;
        }

        static int evenTurnedUpTo(int n) {
            int count = 0;
            for (int half = 0; half < HALVES; half++) {
                int odd = mirrored(half, true);
                if (odd != NONE && odd <= n) {
                    count++;
                }
                int even = mirrored(half, false);
                // Half 0 is 0 both ways, and counts once.
                if (even != NONE && even <= n && half > 0) {
                    count++;
                }
            }
            return count;
        }

        /** The number that begins with half and is itself upside down; middle: half's last digit stands once. */
        private static int mirrored(int half, boolean middle) {
            int rest = half;
            if (middle) {
                if (TURNED[half % 10] != half % 10) {
                    return NONE;
                }
                rest = half / 10;
            }
            int whole = half;
            for (int i = 0; i < 3 && rest > 0; i++) {
                int digit = TURNED[rest % 10];
                if (digit == NONE) {
                    return NONE;
                }
                whole = whole * 10 + digit;
                rest /= 10;
            }
            return whole;
        }

        static int digitCount(int n, int d) {
            int count = 0;
            for (int unit = 1; unit <= 1000; unit *= 10) {
                int above = n / unit / 10;
                int here = n / unit % 10;
                int below = n % unit;
                // A 0 is not said ahead of a number, so one round of what stands above falls away.
                int rounds = d == 0 ? above - 1 : above;
                if (rounds >= 0) {
                    count += rounds * unit + (here > d ? unit : here == d ? below + 1 : 0);
                }
            }
            return count;
        }

        static int digitAt(int n, int k) {
            int rest = k;
            int first = 1;
            for (int width = 1; width <= 4 && first <= n; width++) {
                int last = Math.min(n, first * 10 - 1);
                int digits = (last - first + 1) * width;
                if (rest < digits) {
                    return digitOf(first + rest / width, width - 1 - rest % width);
                }
                rest -= digits;
                first *= 10;
            }
            return NONE;
        }

        private static int digitOf(int n, int fromBehind) {
            int rest = n;
            for (int i = 0; i < fromBehind; i++) {
                rest /= 10;
            }
            return rest % 10;
        }

        static boolean hasBeat(int k, int n, int beat) {
            return n > 0 && beat * k % n < k;
        }

        static int longestWay(int k, int n) {
            if (k == 0) {
                return 0;
            }
            int longest = 0;
            int latest = 0;
            // Beat 0 has one, so the round closes at beat n.
            for (int beat = 1; beat <= n; beat++) {
                if (hasBeat(k, n, beat)) {
                    longest = Math.max(longest, beat - latest);
                    latest = beat;
                }
            }
            return longest;
        }

        static int digitSum(int n, int base) {
            int sum = 0;
            int rest = n;
            for (int i = 0; i < 32 && rest > 0 && base > 1; i++) {
                sum += rest % base;
                rest /= base;
            }
            return sum;
        }

        static boolean readsAlike(int n, int base) {
            int turnedRound = 0;
            int rest = n;
            for (int i = 0; i < 32 && rest > 0 && base > 1; i++) {
                turnedRound = turnedRound * base + rest % base;
                rest /= base;
            }
            return turnedRound == n;
        }

        static int leastAlikeBase(int n) {
            for (int base = 2; base <= 16; base++) {
                if (readsAlike(n, base)) {
                    return base;
                }
            }
            return NONE;
        }

        /** By Legendre: three are too few just for 4 to some power times a number that is 7 modulo 8. */
        static int fewestSquares(int n) {
            if (isSquare(n)) {
                return 1;
            }
            if (waysOfTwoSquares(n) > 0) {
                return 2;
            }
            int rest = n;
            for (int i = 0; i < 16 && rest % 4 == 0; i++) {
                rest /= 4;
            }
            return rest % 8 == 7 ? 4 : 3;
        }

        private static boolean isSquare(int n) {
            for (int root = 1; root <= 100; root++) {
                if (root * root == n) {
                    return true;
                }
            }
            return false;
        }

        static int waysOfTwoSquares(int n) {
            int ways = 0;
            int high = 100;
            for (int low = 0; low <= high; low++) {
                while (high > low && low * low + high * high > n) {
                    high--;
                }
                if (low * low + high * high == n) {
                    ways++;
                }
            }
            return ways;
        }
    }

    /** The persons and all that goes back with them. */
    private static final class Lane {
        final boolean isThought;
        int persons;
        final int[] nerve;
        final int[] hiccups;
        final int[] by;
        final int[] tried;
        final int[] named;
        final int[] found;
        final int[] frights;
        int calm;
        int minute;
        int draws;
        int bookLines;

        Lane(boolean isThought) {
            this.isThought = isThought;
            persons = 0;
            nerve = new int[MOST_PERSONS];
            hiccups = new int[MOST_PERSONS];
            by = new int[MOST_PERSONS];
            tried = new int[MOST_PERSONS];
            named = new int[MOST_PERSONS];
            found = new int[MOST_PERSONS];
            frights = new int[MOST_PERSONS];
            calm = 0;
            minute = 0;
            draws = 0;
            bookLines = 0;
        }

        void copyFrom(Lane other) {
            persons = other.persons;
            for (int i = 0; i < persons; i++) {
                nerve[i] = other.nerve[i];
                hiccups[i] = other.hiccups[i];
                by[i] = other.by[i];
                tried[i] = other.tried[i];
                named[i] = other.named[i];
                found[i] = other.found[i];
                frights[i] = other.frights[i];
            }
            calm = other.calm;
            minute = other.minute;
            draws = other.draws;
            bookLines = other.bookLines;
        }

        boolean has(int person) {
            return person >= 0 && person < persons;
        }

        int welcome(int newNerve) {
            int person = persons;
            if (person >= MOST_PERSONS) {
                return NONE;
            }
            nerve[person] = newNerve;
            hiccups[person] = 0;
            by[person] = NONE;
            tried[person] = 0;
            named[person] = 0;
            found[person] = 0;
            frights[person] = 0;
            persons++;
            return person;
        }

        /** Whoever has none has nobody to find out. */
        void hiccup(int person, int strength) {
            hiccups[person] = Math.max(0, Math.min(MOST_HICCUPS, strength));
            if (hiccups[person] == 0) {
                by[person] = NONE;
                tried[person] = 0;
            }
        }

        void blame(int person, int other) {
            by[person] = other;
            tried[person] = 0;
        }

        int havers() {
            int set = 0;
            for (int i = 0; i < persons; i++) {
                if (hiccups[i] > 0) {
                    set |= 1 << i;
                }
            }
            return set;
        }

        int sum(int[] row) {
            int sum = 0;
            for (int i = 0; i < persons && i < row.length; i++) {
                sum += row[i];
            }
            return sum;
        }

        int stepsBack(int person) {
            int steps = 0;
            int at = person;
            int wasThere = 1 << person;
            for (int i = 0; i < MOST_PERSONS && has(by[at]); i++) {
                at = by[at];
                steps++;
                if ((wasThere >> at & 1) == 1) {
                    return steps;
                }
                wasThere |= 1 << at;
            }
            return steps;
        }

        int told(int person, int what) {
            switch (what) {
                case 0:
                    return nerve[person];
                case 1:
                    return hiccups[person];
                case 2:
                    return by[person];
                case 3:
                    return tried[person];
                case 4:
                    return named[person];
                case 5:
                    return found[person];
                default:
                    return frights[person];
            }
        }

        int draw(int m) {
            draws = draws * 1664525 + 1013904223;
            return m > 0 ? (draws >>> 8) % m : 0;
        }
    }

    /** THE LAW: its lines as code in which each sign stands behind what it joins. */
    private static final class Law {
        static final int HICS = 0;
        static final int STOPS = 1;
        static final int PASSES = 2;

        // Code below 10000 is a number itself.
        static final int FACTS = 10000;
        static final int ADD = 20000;
        static final int SUBTRACT = 20001;
        static final int MULTIPLY = 20002;
        static final int DIVIDE = 20003;
        static final int LESS = 20004;
        static final int EQUAL = 20005;
        static final int MORE = 20006;
        static final int AND = 20007;
        static final int OR = 20008;
        static final int NOT = 20009;

        // Eight open ( or not hold two values each, what is being counted out some more.
        private static final int STACK = 64;

        int count;
        private int size;
        private final int[] word;
        private final int[] from;
        private final int[] when;
        private final int[] till;
        private final int[] code;
        private final int[] stack;

        Law() {
            count = 0;
            size = 0;
            word = new int[MOST_LINES];
            from = new int[MOST_LINES];
            when = new int[MOST_LINES];
            till = new int[MOST_LINES];
            code = new int[TAPE_LENGTH];
            stack = new int[STACK];
        }

        void copyFrom(Law other) {
            count = other.count;
            size = other.size;
            System.arraycopy(other.word, 0, word, 0, MOST_LINES);
            System.arraycopy(other.from, 0, from, 0, MOST_LINES);
            System.arraycopy(other.when, 0, when, 0, MOST_LINES);
            System.arraycopy(other.till, 0, till, 0, MOST_LINES);
            System.arraycopy(other.code, 0, code, 0, size);
        }

        void clear() {
            count = 0;
            size = 0;
        }

        void beginLine(int lineWord) {
            if (count < MOST_LINES) {
                word[count] = lineWord;
                from[count] = size;
            }
        }

        void beginWhen() {
            if (count < MOST_LINES) {
                when[count] = size;
            }
        }

        void endLine() {
            if (count < MOST_LINES) {
                till[count] = size;
                count++;
            }
        }

        void emit(int sign) {
            if (size < TAPE_LENGTH) {
                code[size] = sign;
                size++;
            }
        }

        int ask(int askedWord, Lane lane, int person) {
            for (int i = 0; i < count; i++) {
                if (word[i] == askedWord && (when[i] == till[i] || value(when[i], till[i], lane, person) != 0)) {
                    return bound(askedWord, value(from[i], when[i], lane, person));
                }
            }
            switch (askedWord) {
                case HICS:
                    return bound(HICS, 20 - lane.nerve[person]);
                case STOPS:
                    return bound(STOPS, 50 + 20 * lane.nerve[person]);
                default:
                    return bound(PASSES, lane.hiccups[person] / 2);
            }
        }

        private static int bound(int askedWord, int told) {
            switch (askedWord) {
                case HICS:
                    return Math.max(1, Math.min(99, told));
                case STOPS:
                    return Math.max(0, Math.min(1000, told));
                default:
                    return Math.max(0, Math.min(99, told));
            }
        }

        private int value(int start, int end, Lane lane, int person) {
            int depth = 0;
            for (int i = start; i < end && i < size; i++) {
                int sign = code[i];
                if (sign < ADD) {
                    if (depth < STACK) {
                        stack[depth] = sign < FACTS ? sign : fact(sign - FACTS, lane, person);
                        depth++;
                    }
                } else if (sign == NOT) {
                    if (depth > 0) {
                        stack[depth - 1] = stack[depth - 1] == 0 ? 1 : 0;
                    }
                } else if (depth > 1) {
                    depth--;
                    stack[depth - 1] = joined(sign, stack[depth - 1], stack[depth]);
                }
            }
            return depth > 0 ? stack[depth - 1] : 0;
        }

        private static int joined(int sign, int a, int b) {
            switch (sign) {
                case ADD:
                    return a + b;
                case SUBTRACT:
                    return a - b;
                case MULTIPLY:
                    return a * b;
                case DIVIDE:
                    return b == 0 ? 0 : a / b;
                case LESS:
                    return a < b ? 1 : 0;
                case EQUAL:
                    return a == b ? 1 : 0;
                case MORE:
                    return a > b ? 1 : 0;
                case AND:
                    return a & b;
                default:
                    return a | b;
            }
        }

        /** In the order in which Parser's words tell them. */
        private static int fact(int which, Lane lane, int person) {
            switch (which) {
                case 0:
                    return lane.nerve[person];
                case 1:
                    return lane.hiccups[person];
                case 2:
                    return Integer.bitCount(lane.tried[person]);
                case 3:
                    return lane.named[person];
                case 4:
                    return lane.found[person];
                case 5:
                    return lane.frights[person];
                case 6:
                    return lane.by[person] == NONE ? 0 : Math.abs(lane.by[person] - person);
                default:
                    return lane.minute;
            }
        }
    }

    /** TALK or CURES: what comes in which minute. */
    private static final class Plan {
        static final int NAMES = 0;
        static final int FRIGHT = 1;
        static final int BREATH = 2;
        static final int GLASS = 3;
        static final int SUGAR = 4;

        int count;
        final int[] minute;
        final int[] kind;
        final int[] first;
        final int[] second;

        Plan() {
            count = 0;
            minute = new int[MOST_LINES];
            kind = new int[MOST_LINES];
            first = new int[MOST_LINES];
            second = new int[MOST_LINES];
        }

        void copyFrom(Plan other) {
            count = other.count;
            System.arraycopy(other.minute, 0, minute, 0, MOST_LINES);
            System.arraycopy(other.kind, 0, kind, 0, MOST_LINES);
            System.arraycopy(other.first, 0, first, 0, MOST_LINES);
            System.arraycopy(other.second, 0, second, 0, MOST_LINES);
        }

        void addLine(int atMinute, int lineKind, int one, int other) {
            if (count < MOST_LINES) {
                minute[count] = atMinute;
                kind[count] = lineKind;
                first[count] = one;
                second[count] = other;
                count++;
            }
        }
    }

    /** ROWS: in which order one says names. */
    private static final class Orders {
        int count;
        private final int[] speaker;
        private final int[] namesTold;
        private final int[] names;
        private final int[] order;

        Orders() {
            count = 0;
            speaker = new int[MOST_LINES];
            namesTold = new int[MOST_LINES];
            names = new int[MOST_LINES * MOST_NAMES];
            order = new int[MOST_PERSONS];
        }

        void copyFrom(Orders other) {
            count = other.count;
            System.arraycopy(other.speaker, 0, speaker, 0, MOST_LINES);
            System.arraycopy(other.namesTold, 0, namesTold, 0, MOST_LINES);
            System.arraycopy(other.names, 0, names, 0, MOST_LINES * MOST_NAMES);
        }

        void beginLine(int who) {
            if (count < MOST_LINES) {
                speaker[count] = who;
                namesTold[count] = 0;
            }
        }

        void addName(int who) {
            if (count < MOST_LINES && namesTold[count] < MOST_NAMES) {
                names[count * MOST_NAMES + namesTold[count]] = who;
                namesTold[count]++;
            }
        }

        void endLine() {
            if (count < MOST_LINES) {
                count++;
            }
        }

        int nameAt(int who, int k, int persons) {
            int length = fill(who, persons);
            return k >= 0 && k < length ? order[k] : NONE;
        }

        int firstUntried(int who, int persons, int tried) {
            int length = fill(who, persons);
            for (int i = 0; i < length; i++) {
                if ((tried >> order[i] & 1) == 0) {
                    return order[i];
                }
            }
            return NONE;
        }

        private int fill(int who, int persons) {
            int length = 0;
            int in = 1 << who;
            int line = lastLineOf(who);
            if (line != NONE) {
                for (int i = 0; i < namesTold[line]; i++) {
                    int name = names[line * MOST_NAMES + i];
                    if (name < persons && (in >> name & 1) == 0 && length < MOST_PERSONS) {
                        order[length] = name;
                        length++;
                        in |= 1 << name;
                    }
                }
            }
            for (int name = 0; name < persons; name++) {
                if ((in >> name & 1) == 0 && length < MOST_PERSONS) {
                    order[length] = name;
                    length++;
                }
            }
            return length;
        }

        private int lastLineOf(int who) {
            for (int i = count - 1; i >= 0; i--) {
                if (speaker[i] == who) {
                    return i;
                }
            }
            return NONE;
        }
    }

    /** The TAPE, and its tokens one by one. */
    private static final class Reader {
        static final int END = 0;
        static final int WORD = 1;
        static final int NUMBER = 2;
        static final int SIGN = 3;
        static final int STRANGE = 4;

        private static final String SIGNS = ";+-*/()<=>";

        int length;
        int kind;
        int value;
        int place;
        private int tokens;
        private int token;
        private final int[] tape;
        private final int[] kinds;
        private final int[] values;
        private final int[] places;

        Reader() {
            length = 0;
            kind = END;
            value = 0;
            place = 0;
            tokens = 0;
            token = 0;
            tape = new int[TAPE_LENGTH];
            kinds = new int[TAPE_LENGTH];
            values = new int[TAPE_LENGTH];
            places = new int[TAPE_LENGTH];
        }

        boolean hasSpace(int bytes) {
            return length + bytes <= TAPE_LENGTH;
        }

        void put(int number) {
            for (int shift = 24; shift >= 0 && length < TAPE_LENGTH; shift -= 8) {
                tape[length] = number >>> shift & 255;
                length++;
            }
        }

        boolean cut(int n) {
            if (n < 0 || n > length) {
                return false;
            }
            length = n;
            return true;
        }

        /** Splits the whole TAPE and stands at its first token then. */
        void begin() {
            tokens = 0;
            int at = 0;
            for (int i = 0; i < TAPE_LENGTH && at < length; i++) {
                int sign = tape[at];
                int end = at + 1;
                if (isLetter(sign)) {
                    end = lettersEnd(at);
                    int word = keyword(at, end);
                    addToken(word == NONE ? STRANGE : WORD, word, at);
                } else if (isDigit(sign)) {
                    end = digitsEnd(at);
                    addToken(end - at <= 4 ? NUMBER : STRANGE, number(at, end), at);
                } else if (sign != ' ' && sign != 10) {
                    addToken(SIGNS.indexOf((char) sign) >= 0 ? SIGN : STRANGE, sign, at);
                }
                at = end;
            }
            token = NONE;
            advance();
        }

        void advance() {
            if (token < tokens) {
                token++;
            }
            boolean isEnd = token >= tokens;
            kind = isEnd ? END : kinds[token];
            value = isEnd ? NONE : values[token];
            place = isEnd ? length : places[token];
        }

        boolean isWord(int word) {
            return kind == WORD && value == word;
        }

        boolean isSign(char sign) {
            return kind == SIGN && value == sign;
        }

        private void addToken(int newKind, int newValue, int newPlace) {
            if (tokens < TAPE_LENGTH) {
                kinds[tokens] = newKind;
                values[tokens] = newValue;
                places[tokens] = newPlace;
                tokens++;
            }
        }

        private int lettersEnd(int from) {
            int end = from;
            while (end < length && isLetter(tape[end])) {
                end++;
            }
            return end;
        }

        private int digitsEnd(int from) {
            int end = from;
            while (end < length && isDigit(tape[end])) {
                end++;
            }
            return end;
        }

        private int number(int from, int end) {
            int number = 0;
            for (int i = from; i < end; i++) {
                number = number * 10 + tape[i] - '0';
            }
            return number;
        }

        private int keyword(int from, int end) {
            int word = 0;
            int start = 0;
            for (int i = 0; i < Parser.WORDS.length(); i++) {
                if (Parser.WORDS.charAt(i) == ' ') {
                    if (i - start == end - from && isAt(start, from, end)) {
                        return word;
                    }
                    word++;
                    start = i + 1;
                }
            }
            return NONE;
        }

        private boolean isAt(int start, int from, int end) {
            for (int i = from; i < end; i++) {
                int at = start + i - from;
                if (at >= Parser.WORDS.length() || Parser.WORDS.charAt(at) != tape[i]) {
                    return false;
                }
            }
            return true;
        }

        private static boolean isLetter(int sign) {
            return sign >= 'a' && sign <= 'z' || sign >= 'A' && sign <= 'Z';
        }

        private static boolean isDigit(int sign) {
            return sign >= '0' && sign <= '9';
        }
    }

    /** Reads TEXTS into rows of its own, so that a FAULT leaves what stands. */
    private static final class Parser {
        // Each word has a blank behind it; the words' numbers stand below in this order.
        static final String WORDS =
                "hics stops passes nerve strong tried named found frights near minute when or and not at person names fright breath glass sugar says ";
        private static final int LAST_LAW_WORD = 2;
        private static final int FIRST_FACT = 3;
        private static final int LAST_FACT = 10;
        private static final int WHEN = 11;
        private static final int OR = 12;
        private static final int AND = 13;
        private static final int NOT = 14;
        private static final int AT = 15;
        private static final int PERSON = 16;
        private static final int NAMES = 17;
        private static final int FRIGHT = 18;
        private static final int BREATH = 19;
        private static final int GLASS = 20;
        private static final int SUGAR = 21;
        private static final int SAYS = 22;

        final Reader reader;
        int flaw;
        int flawPlace;
        private int persons;
        private final Law law;
        private final Plan plan;
        private final Orders orders;

        Parser() {
            reader = new Reader();
            flaw = 0;
            flawPlace = NONE;
            persons = 0;
            law = new Law();
            plan = new Plan();
            orders = new Orders();
        }

        void begin(int personsNow) {
            flaw = 0;
            flawPlace = NONE;
            persons = personsNow;
            reader.begin();
        }

        int readLaw(Law target) {
            law.clear();
            for (int line = 0; line <= MOST_LINES && reader.kind != Reader.END; line++) {
                boolean begins = reader.kind == Reader.WORD && reader.value <= LAST_LAW_WORD;
                if (!beginsLine(begins, line) || !readLawLine()) {
                    return NONE;
                }
            }
            target.copyFrom(law);
            return law.count;
        }

        int readPlan(Plan target, boolean isCures) {
            plan.count = 0;
            for (int line = 0; line <= MOST_LINES && reader.kind != Reader.END; line++) {
                if (!beginsLine(reader.isWord(AT), line) || !readPlanLine(isCures)) {
                    return NONE;
                }
            }
            target.copyFrom(plan);
            return plan.count;
        }

        int readOrders(Orders target) {
            orders.count = 0;
            for (int line = 0; line <= MOST_LINES && reader.kind != Reader.END; line++) {
                if (!beginsLine(reader.isWord(PERSON), line) || !readOrdersLine()) {
                    return NONE;
                }
            }
            target.copyFrom(orders);
            return orders.count;
        }

        private boolean beginsLine(boolean begins, int line) {
            if (!begins) {
                return fail(1);
            }
            return line < MOST_LINES || fail(3);
        }

        private boolean readPlanLine(boolean isCures) {
            reader.advance();
            int minute = takeNumber(0, 999);
            if (minute == NONE) {
                return false;
            }
            return isCures ? readCure(minute) : readNaming(minute);
        }

        private boolean readNaming(int minute) {
            if (!takeWord(PERSON)) {
                return false;
            }
            int who = takePerson(NONE);
            if (who == NONE || !takeWord(NAMES)) {
                return false;
            }
            int whom = takePerson(who);
            if (whom == NONE) {
                return false;
            }
            plan.addLine(minute, Plan.NAMES, who, whom);
            return takeSign(';');
        }

        private boolean readCure(int minute) {
            int word = reader.value;
            if (reader.kind != Reader.WORD || word < FRIGHT || word > SUGAR) {
                return fail(1);
            }
            reader.advance();
            int who = takePerson(NONE);
            if (who == NONE) {
                return false;
            }
            int second = 0;
            if (word == BREATH) {
                second = takeNumber(1, 99);
            } else if (word == GLASS) {
                second = takePerson(who);
            }
            if (second == NONE) {
                return false;
            }
            plan.addLine(minute, cureKind(word), who, second);
            return takeSign(';');
        }

        private static int cureKind(int word) {
            switch (word) {
                case FRIGHT:
                    return Plan.FRIGHT;
                case BREATH:
                    return Plan.BREATH;
                case GLASS:
                    return Plan.GLASS;
                default:
                    return Plan.SUGAR;
            }
        }

        private boolean readOrdersLine() {
            reader.advance();
            int who = takePerson(NONE);
            if (who == NONE || !takeWord(SAYS)) {
                return false;
            }
            orders.beginLine(who);
            for (int i = 0; i == 0 || i <= MOST_NAMES && reader.kind == Reader.NUMBER; i++) {
                if (!isPerson(who)) {
                    return false;
                }
                if (i == MOST_NAMES) {
                    return fail(3);
                }
                orders.addName(reader.value);
                reader.advance();
            }
            orders.endLine();
            return takeSign(';');
        }

        private boolean readLawLine() {
            law.beginLine(reader.value);
            reader.advance();
            if (!readSum()) {
                return false;
            }
            law.beginWhen();
            if (reader.isWord(WHEN)) {
                reader.advance();
                if (!readEither(0)) {
                    return false;
                }
            }
            law.endLine();
            return takeSign(';');
        }

        private boolean readEither(int open) {
            boolean orWaits = false;
            boolean andWaits = false;
            for (int i = 0; i < TAPE_LENGTH; i++) {
                if (!readClaim(open)) {
                    return false;
                }
                if (andWaits) {
                    law.emit(Law.AND);
                }
                andWaits = reader.isWord(AND);
                if (!andWaits) {
                    if (orWaits) {
                        law.emit(Law.OR);
                    }
                    orWaits = reader.isWord(OR);
                    if (!orWaits) {
                        return true;
                    }
                }
                reader.advance();
            }
            return fail(1);
        }

        private boolean readClaim(int open) {
            boolean isNot = reader.isWord(NOT);
            if (isNot || reader.isSign('(')) {
                if (open >= MOST_OPEN) {
                    return fail(3);
                }
                reader.advance();
                if (!isNot) {
                    return readEither(open + 1) && takeSign(')');
                }
                if (!readClaim(open + 1)) {
                    return false;
                }
                law.emit(Law.NOT);
                return true;
            }
            if (!readSum()) {
                return false;
            }
            int sign = comparing();
            if (sign == NONE) {
                return fail(1);
            }
            reader.advance();
            if (!readSum()) {
                return false;
            }
            law.emit(sign);
            return true;
        }

        private int comparing() {
            if (reader.isSign('<')) {
                return Law.LESS;
            }
            if (reader.isSign('=')) {
                return Law.EQUAL;
            }
            return reader.isSign('>') ? Law.MORE : NONE;
        }

        private boolean readSum() {
            int sumWaits = NONE;
            int productWaits = NONE;
            for (int i = 0; i < TAPE_LENGTH; i++) {
                if (!readUnit(productWaits == Law.DIVIDE)) {
                    return false;
                }
                if (productWaits != NONE) {
                    law.emit(productWaits);
                }
                productWaits = eitherSign('*', Law.MULTIPLY, '/', Law.DIVIDE);
                if (productWaits == NONE) {
                    if (sumWaits != NONE) {
                        law.emit(sumWaits);
                    }
                    sumWaits = eitherSign('+', Law.ADD, '-', Law.SUBTRACT);
                    if (sumWaits == NONE) {
                        return true;
                    }
                }
                reader.advance();
            }
            return fail(1);
        }

        private int eitherSign(char one, int oneCode, char other, int otherCode) {
            if (reader.isSign(one)) {
                return oneCode;
            }
            return reader.isSign(other) ? otherCode : NONE;
        }

        private boolean readUnit(boolean isDivisor) {
            if (reader.kind == Reader.NUMBER) {
                if (isDivisor && reader.value == 0) {
                    return fail(2);
                }
                law.emit(reader.value);
            } else if (!isDivisor && isFact()) {
                law.emit(Law.FACTS + reader.value - FIRST_FACT);
            } else {
                return fail(1);
            }
            reader.advance();
            return true;
        }

        private boolean isFact() {
            return reader.kind == Reader.WORD && reader.value >= FIRST_FACT && reader.value <= LAST_FACT;
        }

        private boolean isNumber(int least, int most) {
            if (reader.kind != Reader.NUMBER) {
                return fail(1);
            }
            return reader.value >= least && reader.value <= most || fail(2);
        }

        private boolean isPerson(int notThis) {
            if (!isNumber(0, persons - 1)) {
                return false;
            }
            return reader.value != notThis || fail(2);
        }

        private int takeNumber(int least, int most) {
            if (!isNumber(least, most)) {
                return NONE;
            }
            int number = reader.value;
            reader.advance();
            return number;
        }

        private int takePerson(int notThis) {
            if (!isPerson(notThis)) {
                return NONE;
            }
            int number = reader.value;
            reader.advance();
            return number;
        }

        private boolean takeWord(int word) {
            if (!reader.isWord(word)) {
                return fail(1);
            }
            reader.advance();
            return true;
        }

        private boolean takeSign(char sign) {
            if (!reader.isSign(sign)) {
                return fail(1);
            }
            reader.advance();
            return true;
        }

        private boolean fail(int newFlaw) {
            flaw = newFlaw;
            flawPlace = reader.place;
            return false;
        }
    }

    /** All that is and was told: what THE IMAGE keeps. */
    private static final class World {
        final Lane lane;
        final Law law;
        final Plan talk;
        final Plan cures;
        final Orders orders;
        final Rows rows;
        final int[] bookRows;

        World() {
            lane = new Lane(false);
            law = new Law();
            talk = new Plan();
            cures = new Plan();
            orders = new Orders();
            rows = new Rows();
            bookRows = new int[BOOK_LINES * BOOK_WIDTH];
        }

        void copyFrom(World other) {
            lane.copyFrom(other.lane);
            law.copyFrom(other.law);
            talk.copyFrom(other.talk);
            cures.copyFrom(other.cures);
            orders.copyFrom(other.orders);
            rows.copyFrom(other.rows);
            System.arraycopy(other.bookRows, 0, bookRows, 0, BOOK_LINES * BOOK_WIDTH);
        }

        /** How often one was found out in it. */
        int passMinute(Lane at) {
            for (int i = 0; i < talk.count; i++) {
                if (talk.minute[i] == at.minute && at.has(talk.first[i]) && at.has(talk.second[i])) {
                    nameOne(at, talk.first[i], talk.second[i]);
                }
            }
            for (int i = 0; i < cures.count; i++) {
                if (cures.minute[i] == at.minute && at.has(cures.first[i])) {
                    cure(at, cures.kind[i], cures.first[i], cures.second[i]);
                }
            }
            int foundOut = 0;
            for (int i = 0; i < at.persons; i++) {
                if (at.hiccups[i] > 0 && !stops(at, i) && speak(at, i)) {
                    foundOut++;
                }
            }
            if (at.havers() == 0) {
                at.calm++;
            }
            at.minute++;
            return foundOut;
        }

        void nameOne(Lane at, int who, int whom) {
            at.named[whom]++;
            at.hiccup(whom, at.hiccups[whom] + law.ask(Law.HICS, at, whom));
            at.blame(whom, who);
            write(at, NAMED, whom, at.hiccups[whom]);
        }

        private void cure(Lane at, int kind, int who, int second) {
            switch (kind) {
                case Plan.FRIGHT:
                    frighten(at, who);
                    break;
                case Plan.BREATH:
                    at.hiccup(who, at.hiccups[who] - second);
                    break;
                case Plan.GLASS:
                    handOn(at, who, second);
                    break;
                default:
                    at.nerve[who] = Math.min(MOST_NERVE, at.nerve[who] + 1);
                    break;
            }
        }

        void frighten(Lane at, int who) {
            at.hiccup(who, at.hiccups[who] / 2);
            at.frights[who]++;
            write(at, A_FRIGHT, who, at.hiccups[who]);
        }

        void handOn(Lane at, int who, int whom) {
            if (at.hiccups[who] > 0 && at.has(whom)) {
                at.hiccup(whom, at.hiccups[whom] + at.hiccups[who]);
                at.blame(whom, who);
                at.hiccup(who, 0);
                write(at, HANDED_ON, who, whom);
            }
        }

        private boolean stops(Lane at, int who) {
            int likely = law.ask(Law.STOPS, at, who);
            boolean isOver = at.isThought ? likely >= 500 : likely > 0 && at.draw(1000) < likely;
            if (isOver) {
                write(at, STOPPED, who, at.hiccups[who]);
                at.hiccup(who, 0);
            }
            return isOver;
        }

        int nextName(Lane at, int who) {
            return orders.firstUntried(who, at.persons, at.tried[who]);
        }

        /** Whether one was found out. */
        boolean speak(Lane at, int who) {
            int name = nextName(at, who);
            if (name == NONE) {
                at.hiccup(who, at.hiccups[who] - 1);
                write(at, NO_NAME_LEFT, who, at.hiccups[who]);
                return false;
            }
            if (name != at.by[who]) {
                at.tried[who] |= 1 << name;
                write(at, IN_VAIN, who, name);
                return false;
            }
            at.found[name]++;
            int passed = law.ask(Law.PASSES, at, who);
            at.hiccup(name, at.hiccups[name] + passed);
            if (passed > 0) {
                at.blame(name, who);
            }
            at.hiccup(who, 0);
            write(at, FOUND_OUT, who, name);
            return true;
        }

        private void write(Lane at, int what, int who, int howMuch) {
            if (at.isThought || at.bookLines >= BOOK_LINES) {
                return;
            }
            int start = at.bookLines * BOOK_WIDTH;
            bookRows[start] = at.minute;
            bookRows[start + 1] = what;
            bookRows[start + 2] = who;
            bookRows[start + 3] = howMuch;
            at.bookLines++;
        }
    }
}
