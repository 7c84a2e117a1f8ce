import java.util.Arrays;

/** Promises 6 to 9, against rows that are all told without any shortcut. */
public final class GoalsTest {
    private static final int MOST = 60;
    private static final int STEPS = 9;
    private static final int PAIR_STEPS = 6;

    // By how few steps a rising row has all of up to four numbers (1 stands for none): 0 if by none of STEPS.
    private static final byte[] fewest = new byte[61 * 61 * 61 * 61];
    private static final int[][] ledBy = new int[13][13];

    public static void main(String[] args) {
        tellRows(new int[STEPS + 1], 1);
        checkTogether();
        checkGoals();
        for (int[] row : ledBy) {
            Arrays.fill(row, PAIR_STEPS + 1);
        }
        int[][] pairs = new int[PAIR_STEPS + 2][];
        pairs[0] = new int[] {1, 0};
        pairs[1] = new int[] {0, 1};
        tellPairs(pairs, 2);
        checkLed();
        Check.end();
    }

    private static void tellRows(int[] row, int size) {
        row[0] = 1;
        int top = size - 1;
        for (int i = 0; i <= top; i++) {
            for (int j = i; j <= top; j++) {
                for (int k = j; k <= top; k++) {
                    note(row[i], row[j], row[k], row[top], size - 1);
                }
            }
        }
        if (size > STEPS) {
            return;
        }
        boolean[] tried = new boolean[MOST + 1];
        for (int i = 0; i < size; i++) {
            for (int j = i; j < size; j++) {
                int sum = row[i] + row[j];
                if (sum > row[size - 1] && sum <= MOST && !tried[sum]) {
                    tried[sum] = true;
                    row[size] = sum;
                    tellRows(row, size + 1);
                }
            }
        }
    }

    private static void note(int a, int b, int c, int d, int steps) {
        int place = ((a * 61 + b) * 61 + c) * 61 + d;
        if (fewest[place] == 0 || fewest[place] > steps) {
            fewest[place] = (byte) steps;
        }
    }

    private static void checkTogether() {
        for (int n = 2; n <= MOST; n++) {
            checkSet(1, 1, 1, n);
            for (int m = 2; m < n; m++) {
                checkSet(1, 1, m, n);
            }
        }
        for (int a = 2; a <= MOST; a += 3) {
            for (int b = a + 1; b <= MOST; b += 2) {
                for (int c = b + 1; c <= MOST; c += 3) {
                    for (int d = c + 1; d <= MOST; d += 2) {
                        checkSet(a, b, c, d);
                    }
                }
            }
        }
    }

    private static void checkSet(int a, int b, int c, int d) {
        SumChains x = new SumChains();
        int[] goals = {d, b, a, c};
        int size = 0;
        for (int goal : goals) {
            if (goal > 1) {
                size++;
                Check.due("goal(" + goal + ")", x.goal(goal), size);
            }
        }
        int due = fewest[((a * 61 + b) * 61 + c) * 61 + d];
        int got = x.together();
        if (due > 0) {
            Check.due("together of " + Arrays.toString(goals), got, due);
        } else {
            Check.holds("together of " + Arrays.toString(goals) + " is above " + STEPS + ": " + got, got > STEPS);
        }
    }

    private static void checkGoals() {
        SumChains x = new SumChains();
        int[] bad = {1, 0, -1, 61, Integer.MIN_VALUE, Integer.MAX_VALUE};
        for (int n : bad) {
            Check.due("goal(" + n + ")", x.goal(n), SumChains.BAD);
        }
        Check.due("goal(60)", x.goal(60), 1);
        Check.due("goal(2)", x.goal(2), 2);
        Check.due("goal(2) again", x.goal(2), SumChains.NO);
        Check.due("goal(30)", x.goal(30), 3);
        Check.due("goal(31)", x.goal(31), 4);
        Check.due("goal(31) again, when full", x.goal(31), SumChains.NO);
        Check.due("goal(32), when full", x.goal(32), SumChains.FULL);
        Check.due("goal(61), when full", x.goal(61), SumChains.BAD);
        Check.due("how many goals", x.count(0), 4);
        Check.due("together of 2, 30, 31, 60", x.together(), 8);
        Check.due("together again", x.together(), 8);
        Check.due("led between", x.led(2, 1), 2);
        Check.due("how many goals then", x.count(0), 4);
        Check.due("noGoals()", x.noGoals(), 4);
        Check.due("noGoals() again", x.noGoals(), 0);
        Check.due("together of none", x.together(), 0);
        Check.due("goal(31) anew", x.goal(31), 1);
        Check.due("together of 31", x.together(), 7);
    }

    private static void tellPairs(int[][] pairs, int size) {
        int[] last = pairs[size - 1];
        if (last[0] <= 12 && last[1] <= 12) {
            ledBy[last[0]][last[1]] = Math.min(ledBy[last[0]][last[1]], size - 2);
        }
        if (size == pairs.length) {
            return;
        }
        for (int i = 0; i < size; i++) {
            for (int j = i; j < size; j++) {
                int[] sum = {pairs[i][0] + pairs[j][0], pairs[i][1] + pairs[j][1]};
                // Each row can be told in this order, as a pair stands behind those that it comes of.
                boolean rises = size == 2 || order(sum) > order(last);
                if (rises && sum[0] <= 12 && sum[1] <= 12) {
                    pairs[size] = sum;
                    tellPairs(pairs, size + 1);
                }
            }
        }
    }

    private static int order(int[] pair) {
        return 100 * (pair[0] + pair[1]) + pair[0];
    }

    private static void checkLed() {
        SumChains x = new SumChains();
        ledBy[1][0] = 0;
        for (int a = 0; a <= 12; a++) {
            for (int b = 0; b <= 12; b++) {
                int due = a + b == 0 ? SumChains.BAD : ledBy[a][b];
                Check.due("led(" + a + ", " + b + ")", x.led(a, b), due);
            }
        }
        int[][] bad = {{-1, 1}, {1, -1}, {13, 1}, {1, 13}, {-1, -1}, {Integer.MAX_VALUE, Integer.MAX_VALUE},
            {Integer.MIN_VALUE, Integer.MIN_VALUE}};
        for (int[] pair : bad) {
            Check.due("led of " + Arrays.toString(pair), x.led(pair[0], pair[1]), SumChains.BAD);
        }
    }
}
