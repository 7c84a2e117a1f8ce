/**
 * Chains of sums: the fewest steps to a number, roads to it, prices, texts of chains and what they do.
 *
 * The numbered promises stand in the project's DOC.md; README.md tells how to use the class.
 */
public final class SumChains {
    public static final int BAD = -1, NO = -2, FULL = -3, NONE = -4;

    private static final int SUMS = 0, LATEST = 1, LESS = 2, TWINS = 3, KINDS = 4;
    private static final int HALVES = 0, FIGURES = 1, FACTORS = 2, TREE = 3, SIGNS = 4;

    private static final int FEWEST_MOST = 160, FEWEST_MOST_LESS = 40;
    private static final int AS_FEW_MOST = 80, AS_FEW_MOST_LESS = 24;
    private static final int HARDEST_MOST = 9;
    private static final int GOALS_MOST = 4, GOAL_LEAST = 2, GOAL_MOST = 60;
    private static final int PAIR_MOST = 12;
    private static final int ROAD_MOST = 100000, TREE_MOST = 1000, GOOD_MOST = 100;
    private static final int WIDTH_LEAST = 2, WIDTH_MOST = 4;
    private static final int PRICE_MOST = 4, CHEAPEST_MOST = 40;
    private static final int TEXT_MOST = 120, WRITE_MOST = 8, FIGURES_MOST = 5;
    private static final int POWER_MOST = 1000000, MODULUS_LEAST = 2;

    private static final int TRIAL_NUMBERS = FEWEST_MOST + 1;
    private static final int TRIAL_ROW = 48;
    private static final int STEPS_MOST = 24;
    private static final int ROW_ROOM = 64;
    // Numbers of roads and texts are at most 100000.
    private static final int NUMBER_BITS = 17;

    private final Shortest shortest;
    private final Gathering goals;
    private final Gathering pairs;
    private final Bargain bargain;
    private final Road roadRow;
    private final Text text;
    private Chain theChain;
    private Chain spareChain;

    public SumChains() {
        Trial trial = new Trial();
        shortest = new Shortest(trial);
        goals = new Gathering(trial);
        pairs = new Gathering(trial);
        bargain = new Bargain(trial);
        roadRow = new Road();
        text = new Text();
        theChain = new Chain();
        spareChain = new Chain();
    }

    // ---- fewest

    public int fewest(int kind, int n) {
        if (n < 1 || n > fewestMost(kind)) {
            return BAD;
        }
        return shortest.stepsTo(kind, n);
    }

    public int asFew(int kind, int n) {
        if (n < 1 || n > asFewMost(kind)) {
            return BAD;
        }
        return shortest.rowsTo(kind, n);
    }

    public int first(int kind, int n, int i) {
        if (n < 1 || n > fewestMost(kind) || i < 0) {
            return BAD;
        }
        return shortest.numberOfFirst(kind, n, i);
    }

    public int hardest(int kind, int k) {
        if (!isKind(kind) || kind == LESS || k < 0 || k > HARDEST_MOST) {
            return BAD;
        }
        for (int n = 1; n <= FEWEST_MOST; n++) {
            if (shortest.stepsTo(kind, n) == k) {
                return n;
            }
        }
        return NONE;
    }

    public int goal(int n) {
        if (n < GOAL_LEAST || n > GOAL_MOST) {
            return BAD;
        }
        if (goals.holds(n)) {
            return NO;
        }
        if (goals.size() >= GOALS_MOST) {
            return FULL;
        }
        goals.insert(n);
        return goals.size();
    }

    public int noGoals() {
        int were = goals.size();
        goals.clear();
        return were;
    }

    public int together() {
        return goals.fewestSteps();
    }

    public int led(int a, int b) {
        if (a < 0 || a > PAIR_MOST || b < 0 || b > PAIR_MOST || a + b == 0) {
            return BAD;
        }
        // Each sum drawn as two arrows, and all arrows turned round: what leads the pairs to (a, b) is then
        // a row with a and b in it, and the other way about; of two starts one is a step more there.
        // (Olivos' theorem; the tests tell all rows of pairs.)
        pairs.clear();
        pairs.insert(a);
        pairs.insert(b);
        return pairs.fewestSteps() + (a > 0 && b > 0 ? 1 : 0);
    }

    private static boolean isKind(int kind) {
        return kind >= 0 && kind < KINDS;
    }

    /** The greatest n of FEWEST; 0, which no n meets, if there is no such kind. */
    private static int fewestMost(int kind) {
        if (!isKind(kind)) {
            return 0;
        }
        return kind == LESS ? FEWEST_MOST_LESS : FEWEST_MOST;
    }

    /** The greatest n of AS FEW; 0, which no n meets, if there is no such kind. */
    private static int asFewMost(int kind) {
        if (!isKind(kind)) {
            return 0;
        }
        return kind == LESS ? AS_FEW_MOST_LESS : AS_FEW_MOST;
    }

    /** The least number from which so many steps can reach goal: each of them doubles at most. */
    private static int leastToReach(int goal, int steps) {
        int shift = Math.max(0, Math.min(steps, STEPS_MOST));
        return (goal + (1 << shift) - 1) >> shift;
    }

    // ---- roads

    public int road(int road, int n, int w) {
        if (!isRoad(road, n, w)) {
            return BAD;
        }
        roadRow.build(road, n, w);
        return roadRow.steps();
    }

    public int step(int road, int n, int w, int i) {
        if (!isRoad(road, n, w) || i < 0) {
            return BAD;
        }
        roadRow.build(road, n, w);
        return roadRow.numberAt(i);
    }

    public int good(int road, int w, int m) {
        if (road == SIGNS || m < 1 || m > GOOD_MOST || !isRoad(road, m, w)) {
            return BAD;
        }
        int goodOnes = 0;
        for (int n = 1; n <= m; n++) {
            roadRow.build(road, n, w);
            if (roadRow.steps() == shortest.stepsTo(SUMS, n)) {
                goodOnes++;
            }
        }
        return goodOnes;
    }

    private static boolean isRoad(int road, int n, int w) {
        if (road < HALVES || road > SIGNS) {
            return false;
        }
        if (road == FIGURES && (w < WIDTH_LEAST || w > WIDTH_MOST)) {
            return false;
        }
        return n >= 1 && n <= (road == TREE ? TREE_MOST : ROAD_MOST);
    }

    // ---- prices, texts

    public int price(int what, int v) {
        if (what < 0 || what > 1 || v < 1 || v > PRICE_MOST) {
            return BAD;
        }
        return bargain.changePrice(what == 0, v);
    }

    public int cheapest(int n) {
        if (n < 1 || n > CHEAPEST_MOST) {
            return BAD;
        }
        return bargain.leastPrice(n);
    }

    public int write(int n, long v) {
        if (n < 1 || n > WRITE_MOST) {
            return BAD;
        }
        if (text.size() + n > TEXT_MOST) {
            return FULL;
        }
        text.append(n, v);
        return text.size();
    }

    public int wipe() {
        int was = text.size();
        text.clear();
        return was;
    }

    public int fault(int kind) {
        if (!isKind(kind)) {
            return BAD;
        }
        return text.readInto(spareChain, kind);
    }

    public int take(int kind) {
        if (!isKind(kind)) {
            return BAD;
        }
        if (text.readInto(spareChain, kind) != NONE) {
            return NO;
        }
        Chain taken = spareChain;
        spareChain = theChain;
        theChain = taken;
        return theChain.steps();
    }

    public int chain(int i) {
        if (i < 0) {
            return BAD;
        }
        return theChain.numberAt(i);
    }

    public int uses(int i) {
        if (i < 0) {
            return BAD;
        }
        return theChain.usesAt(i);
    }

    public int drawers() {
        return theChain.mostAtOnce();
    }

    public int power(int x, int m) {
        if (x < 0 || x > POWER_MOST || m < MODULUS_LEAST || m > POWER_MOST) {
            return BAD;
        }
        int times = theChain.latest();
        long result = 1;
        for (int bit = NUMBER_BITS - 1; bit >= 0; bit--) {
            result = result * result % m;
            if (((times >> bit) & 1) == 1) {
                result = result * x % m;
            }
        }
        return (int) result;
    }

    public int count(int what) {
        switch (what) {
            case 0:
                return goals.size();
            case 1:
                return text.size();
            case 2:
                return theChain.steps();
            case 3:
                return theChain.doublings();
            case 4:
                return roadRow.treeSize();
            default:
                return BAD;
        }
    }

    /** The row that a search tries, and in how many ways each number would come next. */
    private static final class Trial {
        private final int[] numbers = new int[TRIAL_ROW];
        private final int[] ways = new int[TRIAL_NUMBERS];
        private final boolean[] there = new boolean[TRIAL_NUMBERS];
        private int size = 0;
        private int kind = SUMS;

        void begin(int ofKind, int number) {
            for (int left = size; left > 0; left--) {
                takeBack();
            }
            kind = ofKind;
            put(number);
        }

        boolean put(int number) {
            if (number < 1 || number >= TRIAL_NUMBERS || size >= TRIAL_ROW) {
                return false;
            }
            numbers[size] = number;
            size++;
            there[number] = true;
            changePairs(number, 1);
            return true;
        }

        void takeBack() {
            int number = latest();
            if (number < 1) {
                return;
            }
            changePairs(number, -1);
            there[number] = false;
            size--;
        }

        int size() {
            return size;
        }

        int numberAt(int i) {
            return i >= 0 && i < size ? numbers[i] : 0;
        }

        int latest() {
            return numberAt(size - 1);
        }

        boolean stands(int number) {
            return number > 0 && number < TRIAL_NUMBERS && there[number];
        }

        boolean comes(int number) {
            if (kind == LATEST) {
                return stands(number - latest());
            }
            return waysTo(number) > 0 && !stands(number);
        }

        int waysTo(int number) {
            return number > 0 && number < TRIAL_NUMBERS ? ways[number] : 0;
        }

        /** Whether goal would come of number, once that stands too, and another one or itself. */
        boolean leadsOn(int number, int goal) {
            int other = goal - number;
            if (other == number) {
                return true;
            }
            if (kind == LESS) {
                return stands(Math.abs(other)) || stands(goal + number);
            }
            return stands(other) && (kind != TWINS || stands(number - other));
        }

        // In a rising row a difference that is missing now can't come later, so what TWINS count here stays right.
        private void changePairs(int number, int by) {
            for (int i = 0; i < size; i++) {
                int sum = number + numbers[i];
                int difference = Math.abs(number - numbers[i]);
                if (difference >= TRIAL_NUMBERS) {
                    continue;
                }
                boolean mayAdd = kind != TWINS || difference == 0 || there[difference];
                if (mayAdd && sum < TRIAL_NUMBERS) {
                    ways[sum] += by;
                }
                if (kind == LESS) {
                    ways[difference] += by;
                }
            }
        }
    }

    /** FEWEST, AS FEW and THE FIRST, by trying rows with the greatest number ahead. */
    private static final class Shortest {
        private final Trial trial;
        // What has been found is kept, 0 where nothing has: many calls ask for the same numbers.
        private final int[][] steps = new int[KINDS][FEWEST_MOST + 1];
        private final int[][] rows = new int[KINDS][AS_FEW_MOST + 1];
        private final int[] found = new int[TRIAL_ROW];
        private int foundSize = 0;
        private int foundKind = NONE;
        private int foundGoal = 0;
        private int kind = SUMS;
        private int goal = 1;
        private boolean all = false;

        Shortest(Trial trial) {
            this.trial = trial;
        }

        int stepsTo(int ofKind, int n) {
            if (ofKind < 0 || ofKind >= KINDS || n <= 1 || n > FEWEST_MOST) {
                return 0;
            }
            for (int tried = 1; tried <= STEPS_MOST && steps[ofKind][n] == 0; tried++) {
                if (1 << tried >= n && search(ofKind, n, tried, false) > 0) {
                    steps[ofKind][n] = tried;
                }
            }
            return steps[ofKind][n];
        }

        int rowsTo(int ofKind, int n) {
            if (ofKind < 0 || ofKind >= KINDS || n <= 1 || n > AS_FEW_MOST) {
                return 1;
            }
            if (rows[ofKind][n] == 0) {
                rows[ofKind][n] = search(ofKind, n, stepsTo(ofKind, n), true);
            }
            return rows[ofKind][n];
        }

        int numberOfFirst(int ofKind, int n, int i) {
            if (i > stepsTo(ofKind, n)) {
                return NONE;
            }
            if (i == 0) {
                return 1;
            }
            if (foundKind != ofKind || foundGoal != n) {
                search(ofKind, n, stepsTo(ofKind, n), false);
            }
            return i > 0 && i < foundSize ? found[i] : NONE;
        }

        private int search(int ofKind, int n, int byStepsAlone, boolean allOfThem) {
            kind = ofKind;
            goal = n;
            all = allOfThem;
            trial.begin(ofKind, 1);
            return climb(byStepsAlone);
        }

        /** How many rows go on to the goal by so many steps more; one is enough, unless all are wanted. */
        private int climb(int left) {
            if (left < 1 || left > STEPS_MOST) {
                return 0;
            }
            if (left == 1) {
                return trial.comes(goal) ? keep(0) : 0;
            }
            int rowsFound = 0;
            int low = lowest(left - 1);
            for (int number = highest(); number >= low && (all || rowsFound == 0); number--) {
                if (!trial.comes(number)) {
                    continue;
                }
                if (left == 2) {
                    // The goal must come of this number: else fewer steps would do.
                    rowsFound += trial.leadsOn(number, goal) ? keep(number) : 0;
                } else if (trial.put(number)) {
                    rowsFound += climb(left - 1);
                    trial.takeBack();
                }
            }
            return rowsFound;
        }

        private int highest() {
            return kind == LESS ? 2 * goal : Math.min(2 * trial.latest(), goal - 1);
        }

        private int lowest(int stepsBehind) {
            if (kind == LESS) {
                return 1;
            }
            return Math.max(trial.latest() + 1, leastToReach(goal, stepsBehind));
        }

        /** Keeps the row on trial with the last number ahead of the goal (0: that stands there) and the goal. */
        private int keep(int number) {
            if (all) {
                return 1;
            }
            foundSize = 0;
            for (int i = 0; i < trial.size(); i++) {
                keepNumber(trial.numberAt(i));
            }
            if (number > 0) {
                keepNumber(number);
            }
            keepNumber(goal);
            foundKind = kind;
            foundGoal = goal;
            return 1;
        }

        private void keepNumber(int number) {
            if (foundSize >= 0 && foundSize < TRIAL_ROW) {
                found[foundSize] = number;
                foundSize++;
            }
        }
    }

    /** Goals in rising order, and the fewest steps of a rising row of sums that has them all. */
    private static final class Gathering {
        private final Trial trial;
        private final int[] wanted = new int[GOALS_MOST];
        private int size = 0;

        Gathering(Trial trial) {
            this.trial = trial;
        }

        int size() {
            return size;
        }

        void clear() {
            size = 0;
        }

        boolean holds(int number) {
            for (int i = 0; i < size; i++) {
                if (wanted[i] == number) {
                    return true;
                }
            }
            return false;
        }

        /** Puts a number in its place; 0 and 1 stand in every row, and so does what is wanted already. */
        void insert(int number) {
            if (number <= 1 || holds(number) || size >= GOALS_MOST) {
                return;
            }
            int place = size;
            for (int i = size; i > 0 && wanted[i - 1] > number; i--) {
                wanted[i] = wanted[i - 1];
                place = i - 1;
            }
            wanted[place] = number;
            size++;
        }

        int fewestSteps() {
            trial.begin(SUMS, 1);
            for (int tried = size; tried <= STEPS_MOST; tried++) {
                if (climb(0, tried)) {
                    return tried;
                }
            }
            return NONE;
        }

        private boolean climb(int next, int left) {
            int waiting = size - next;
            if (waiting <= 0) {
                return true;
            }
            if (next < 0 || left < waiting || left > STEPS_MOST) {
                return false;
            }
            int goal = wanted[next];
            int high = Math.min(2 * trial.latest(), goal);
            int low = left == waiting ? goal : lowest(next, left - 1);
            for (int number = high; number >= low; number--) {
                if (!trial.comes(number) || !trial.put(number)) {
                    continue;
                }
                boolean done = climb(number == goal ? next + 1 : next, left - 1);
                trial.takeBack();
                if (done) {
                    return true;
                }
            }
            return false;
        }

        /** Each goal must still be in reach when those behind it have a step each. */
        private int lowest(int next, int stepsBehind) {
            int low = trial.latest() + 1;
            for (int i = Math.max(0, next); i < size; i++) {
                low = Math.max(low, leastToReach(wanted[i], stepsBehind - (size - 1 - i)));
            }
            return low;
        }
    }

    /** The two prices, and the least price of a rising row of sums. */
    private static final class Bargain {
        private static final int DEAREST = PRICE_MOST * CHEAPEST_MOST;

        private final Trial trial;
        private int ofDoubling = 1;
        private int ofSum = 1;
        private int goal = 1;

        Bargain(Trial trial) {
            this.trial = trial;
        }

        int changePrice(boolean doubling, int price) {
            int was = doubling ? ofDoubling : ofSum;
            if (doubling) {
                ofDoubling = price;
            } else {
                ofSum = price;
            }
            return was;
        }

        int leastPrice(int n) {
            goal = n;
            trial.begin(SUMS, 1);
            for (int tried = 0; tried <= DEAREST; tried++) {
                if (climb(tried, 0)) {
                    return tried;
                }
            }
            return NONE;
        }

        /** Whether the price that is left pays for the way to the goal. */
        private boolean climb(int left, int depth) {
            int latest = trial.latest();
            if (latest >= goal || depth > STEPS_MOST) {
                return latest == goal;
            }
            for (int number = Math.min(2 * latest, goal); number > latest; number--) {
                int rest = left - priceOf(number);
                if (!trial.comes(number) || rest < 0 || !inReach(number, rest) || !trial.put(number)) {
                    continue;
                }
                boolean done = climb(rest, depth + 1);
                trial.takeBack();
                if (done) {
                    return true;
                }
            }
            return false;
        }

        private int priceOf(int number) {
            boolean doubling = number % 2 == 0 && trial.stands(number / 2);
            if (!doubling) {
                return ofSum;
            }
            boolean sumToo = trial.waysTo(number) > 1;
            return sumToo ? Math.min(ofDoubling, ofSum) : ofDoubling;
        }

        private boolean inReach(int number, int rest) {
            int cheaper = Math.max(1, Math.min(ofDoubling, ofSum));
            return number >= leastToReach(goal, rest / cheaper);
        }
    }

    /** THE TREE, with every number up to 1000 in it. */
    private static final class PowerTree {
        // The row with 1000 is the 12th below the root: no number in it is above 2 to the 12th.
        private static final int NUMBERS = (1 << 12) + 1, ORDER_ROOM = 1280, ROWS_MOST = 40;

        private final int[] above = new int[NUMBERS];
        private final int[] order = new int[ORDER_ROOM];
        private final int[] way = new int[ROW_ROOM];
        private int size = 0;
        private int sizeWithThousand = 0;
        private int waySize = 0;

        PowerTree() {
            order[0] = 1;
            size = 1;
            int rowStart = 0;
            for (int row = 0; row < ROWS_MOST && rowStart < size; row++) {
                int rowEnd = size;
                // Once 1000 is there, numbers above it lead to none that is asked for.
                int most = above[TREE_MOST] == 0 ? NUMBERS - 1 : TREE_MOST;
                for (int i = rowStart; i < rowEnd; i++) {
                    growBelow(order[i], most);
                }
                rowStart = rowEnd;
                if (sizeWithThousand == 0 && above[TREE_MOST] > 0) {
                    sizeWithThousand = size;
                }
            }
        }

        int sizeWithThousand() {
            return sizeWithThousand;
        }

        int waySize() {
            return waySize;
        }

        int wayAt(int i) {
            return i >= 0 && i < waySize ? way[i] : 0;
        }

        /** Sets the way from 1 to number. */
        void findWay(int number) {
            waySize = 0;
            int at = number;
            for (int i = 0; i < ROW_ROOM && at > 0 && at < NUMBERS; i++) {
                way[i] = at;
                waySize++;
                at = above[at];
            }
            for (int low = 0, high = waySize - 1; low < high; low++, high--) {
                int held = way[low];
                way[low] = way[high];
                way[high] = held;
            }
        }

        private void growBelow(int number, int most) {
            findWay(number);
            for (int i = 0; i < waySize; i++) {
                int sum = number + way[i];
                if (sum > 1 && sum <= most && sum < NUMBERS && above[sum] == 0 && size < ORDER_ROOM) {
                    above[sum] = number;
                    order[size] = sum;
                    size++;
                }
            }
        }
    }

    /** The numbers of one road. */
    private static final class Road {
        private static final int FACTORS_DEEPEST = 40;

        private final int[] numbers = new int[ROW_ROOM];
        private int size = 0;
        // Grown when it is asked for at first: most objects never need it.
        private PowerTree tree = null;

        void build(int road, int n, int w) {
            size = 0;
            switch (road) {
                case HALVES:
                    addHalves(n);
                    break;
                case FIGURES:
                    addFigures(n, w);
                    break;
                case FACTORS:
                    add(1);
                    addFactors(n, 1, 0);
                    break;
                case TREE:
                    addWay(n);
                    break;
                default:
                    addSigns(n);
                    break;
            }
        }

        int steps() {
            return size - 1;
        }

        int numberAt(int i) {
            return i >= 0 && i < size ? numbers[i] : NONE;
        }

        int treeSize() {
            return grownTree().sizeWithThousand();
        }

        private PowerTree grownTree() {
            if (tree == null) {
                tree = new PowerTree();
            }
            return tree;
        }

        private void addHalves(int n) {
            int at = 0;
            for (int bit = NUMBER_BITS - 1; bit >= 0; bit--) {
                at = addDoubledAndFigure(at, (n >> bit) & 1);
            }
        }

        private void addSigns(int n) {
            int at = 0;
            for (int bit = NUMBER_BITS; bit >= 0; bit--) {
                // The figures of 3 n less those of n, without borrowing, are those of 2 n by signs.
                int figure = ((3 * n >> (bit + 1)) & 1) - ((n >> (bit + 1)) & 1);
                at = addDoubledAndFigure(at, figure);
            }
        }

        private int addDoubledAndFigure(int at, int figure) {
            add(2 * at);
            add(2 * at + figure);
            return 2 * at + figure;
        }

        // These rise as they come: what the doublings make below 2 to the w is there already.
        private void addFigures(int n, int w) {
            int width = Math.max(WIDTH_LEAST, Math.min(w, WIDTH_MOST));
            int greatest = (1 << width) - 1;
            for (int number = 1; number <= greatest; number++) {
                add(number);
            }
            int at = 0;
            for (int place = NUMBER_BITS / width; place >= 0; place--) {
                for (int times = 0; times < width; times++) {
                    at = 2 * at;
                    add(at);
                }
                at += (n >> (place * width)) & greatest;
                add(at);
            }
        }

        /** Adds the road to n with each of its numbers but 1 so many times as great. */
        private void addFactors(int n, int times, int depth) {
            if (n <= 1 || depth > FACTORS_DEEPEST) {
                return;
            }
            int prime = leastPrime(n);
            if (prime == n) {
                addFactors(n - 1, times, depth + 1);
                add(n * times);
            } else {
                addFactors(prime, times, depth + 1);
                addFactors(n / prime, times * prime, depth + 1);
            }
        }

        private static int leastPrime(int n) {
            for (int prime = 2; prime * prime <= n; prime++) {
                if (n % prime == 0) {
                    return prime;
                }
            }
            return Math.max(2, n);
        }

        private void addWay(int n) {
            PowerTree grown = grownTree();
            grown.findWay(n);
            for (int i = 0; i < grown.waySize(); i++) {
                add(grown.wayAt(i));
            }
        }

        private boolean holds(int number) {
            for (int i = 0; i < size; i++) {
                if (numbers[i] == number) {
                    return true;
                }
            }
            return false;
        }

        /** Adds a number, if it is not there already; 0 is what doubling nothing makes. */
        private void add(int number) {
            if (number > 0 && size < ROW_ROOM && !holds(number)) {
                numbers[size] = number;
                size++;
            }
        }
    }

    /** THE TEXT. */
    private static final class Text {
        private final byte[] bytes = new byte[TEXT_MOST];
        private int size = 0;

        int size() {
            return size;
        }

        void clear() {
            size = 0;
        }

        void append(int n, long v) {
            for (int left = Math.min(n, WRITE_MOST) - 1; left >= 0 && size < TEXT_MOST; left--) {
                bytes[size] = (byte) (v >> (8 * left));
                size++;
            }
        }

        /** Reads the text as a chain of a kind: the place of the first fault, or NONE. */
        int readInto(Chain into, int kind) {
            into.clear(kind);
            int at = 0;
            for (int turn = 0; turn <= TEXT_MOST; turn++) {
                int end = endOfFigures(at);
                if (!into.add(valueOf(at, end))) {
                    return at;
                }
                if (end >= size) {
                    return NONE;
                }
                if (bytes[end] != ',') {
                    return end;
                }
                at = end + 1;
            }
            return at;
        }

        private int endOfFigures(int from) {
            int end = Math.max(0, from);
            for (int i = end; i < size && bytes[i] >= '0' && bytes[i] <= '9'; i++) {
                end = i + 1;
            }
            return end;
        }

        /** The number that these figures tell; 0, which is in no chain, if they tell none. */
        private int valueOf(int from, int end) {
            if (from < 0 || from >= end || end > size || end - from > FIGURES_MOST || bytes[from] == '0') {
                return 0;
            }
            int value = 0;
            for (int i = from; i < end; i++) {
                value = 10 * value + bytes[i] - '0';
            }
            return value;
        }
    }

    /** A chain of a kind, and by which two each of its steps is done. */
    private static final class Chain {
        private final int[] numbers = new int[ROW_ROOM];
        private final int[] lastUse = new int[ROW_ROOM];
        private final int[] useCount = new int[ROW_ROOM];
        private int size = 0;
        private int kind = SUMS;
        private int doubled = 0;
        // The places of the two by which the number that is looked at comes; -1, if it does not.
        private int onePlace = -1;
        private int otherPlace = -1;

        Chain() {
            append(1);
        }

        void clear(int ofKind) {
            size = 0;
            kind = ofKind;
            doubled = 0;
        }

        int steps() {
            return size - 1;
        }

        int doublings() {
            return doubled;
        }

        int numberAt(int i) {
            return i >= 0 && i < size ? numbers[i] : NONE;
        }

        int usesAt(int i) {
            return i >= 0 && i < size ? useCount[i] : NONE;
        }

        int latest() {
            return Math.max(1, numberAt(size - 1));
        }

        /** Adds a number, if it may come now. */
        boolean add(int number) {
            if (size == 0) {
                return number == 1 && append(number);
            }
            if (number < 1 || !mayStandNext(number)) {
                return false;
            }
            findSum(number);
            if (onePlace < 0 && kind == LESS) {
                findDifference(number);
            }
            return onePlace >= 0 && append(number) && useBoth(size - 1);
        }

        private boolean append(int number) {
            if (size >= ROW_ROOM) {
                return false;
            }
            numbers[size] = number;
            lastUse[size] = 0;
            useCount[size] = 0;
            size++;
            return true;
        }

        private boolean useBoth(int step) {
            if (onePlace < 0 || onePlace >= step || otherPlace < 0 || otherPlace >= step) {
                return false;
            }
            lastUse[onePlace] = step;
            useCount[onePlace]++;
            lastUse[otherPlace] = step;
            useCount[otherPlace]++;
            doubled += onePlace == otherPlace ? 1 : 0;
            return true;
        }

        private boolean mayStandNext(int number) {
            return kind == LESS ? placeOf(number) < 0 : number > latest();
        }

        private int placeOf(int number) {
            for (int i = 0; i < size; i++) {
                if (numbers[i] == number) {
                    return i;
                }
            }
            return -1;
        }

        private void findSum(int number) {
            onePlace = -1;
            otherPlace = -1;
            for (int i = 0; i < size; i++) {
                int other = number - numbers[i];
                boolean better = onePlace < 0 || numbers[i] > numbers[onePlace];
                if (other < numbers[i] || !better) {
                    continue;
                }
                int place = placeOf(other);
                if (place >= 0 && letsAdd(i, place)) {
                    onePlace = i;
                    otherPlace = place;
                }
            }
        }

        private boolean letsAdd(int lesser, int greater) {
            if (kind == LATEST) {
                return greater == size - 1;
            }
            return lesser == greater || kind != TWINS || placeOf(numbers[greater] - numbers[lesser]) >= 0;
        }

        /** Of differences that whose greater is the least: its lesser is the least then, too. */
        private void findDifference(int number) {
            for (int i = 0; i < size; i++) {
                boolean better = onePlace < 0 || numbers[i] < numbers[onePlace];
                int place = better ? placeOf(number + numbers[i]) : -1;
                if (place >= 0) {
                    onePlace = i;
                    otherPlace = place;
                }
            }
        }

        /** DRAWERS. */
        int mostAtOnce() {
            int most = 1;
            for (int step = 1; step < size; step++) {
                most = Math.max(most, wantedFrom(step, step));
                most = Math.max(most, wantedFrom(step, step + 1) + 1);
            }
            return most;
        }

        /** How many numbers ahead of a step are wanted by one from `since` on. */
        private int wantedFrom(int step, int since) {
            int wanted = 0;
            for (int i = 0; i < step; i++) {
                if (lastUse[i] >= since) {
                    wanted++;
                }
            }
            return wanted;
        }
    }
}
