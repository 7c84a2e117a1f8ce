import java.util.ArrayList;
import java.util.Arrays;
import java.util.List;

/** Promises 2 to 5, against rows that are all told without any shortcut. */
public final class FewestTest {
    private static final int MOST = 160;
    private static final int[] STEPS = {10, 10, 7, 11};

    /** Of each number: by how few steps rows end with it, how many, and the first of them. */
    private static final class Found {
        final int[] steps = new int[MOST + 1];
        final int[] rows = new int[MOST + 1];
        final int[][] first = new int[MOST + 1][];

        void add(int[] row, int size) {
            int n = row[size - 1];
            if (n > MOST || first[n] != null && steps[n] < size - 1) {
                return;
            }
            int[] copy = Arrays.copyOf(row, size);
            if (first[n] == null || steps[n] > size - 1) {
                steps[n] = size - 1;
                rows[n] = 0;
                first[n] = copy;
            }
            rows[n]++;
            if (Arrays.compare(copy, first[n]) > 0) {
                first[n] = copy;
            }
        }
    }

    public static void main(String[] args) {
        for (int kind = 0; kind < 4; kind++) {
            SumChains x = new SumChains();
            if (kind == 2) {
                for (int n = 1; n <= 40; n++) {
                    x = n % 20 == 0 ? new SumChains() : x;
                    checkNumber(x, kind, n, allRows(kind, 2 * n, STEPS[kind]));
                }
            } else {
                Found found = allRows(kind, MOST, STEPS[kind]);
                for (int n = MOST; n >= 1; n--) {
                    // An object is good for 512 calls.
                    x = n % 20 == 0 ? new SumChains() : x;
                    checkNumber(x, kind, n, found);
                }
                checkHardest(kind, found);
                checkFirstByTurns(kind, found);
            }
        }
        checkWrong();
        Check.end();
    }

    private static void checkNumber(SumChains x, int kind, int n, Found found) {
        String at = "(" + kind + ", " + n;
        Check.due("fewest" + at + ")", x.fewest(kind, n), found.steps[n]);
        Check.due("asFew" + at + ")", x.asFew(kind, n), n <= (kind == 2 ? 24 : 80) ? found.rows[n] : SumChains.BAD);
        SumChains fresh = new SumChains();
        for (int i = found.steps[n]; i >= 0; i--) {
            Check.due("first" + at + ", " + i + ")", x.first(kind, n, i), found.first[n][i]);
        }
        Check.due("first of a new object" + at + ")", fresh.first(kind, n, found.steps[n]), n);
        Check.due("first behind the end" + at + ")", x.first(kind, n, found.steps[n] + 1), SumChains.NONE);
    }

    private static void checkFirstByTurns(int kind, Found found) {
        SumChains x = new SumChains();
        int[] numbers = {23, 71, 1, 127, 2, 160, 79, 29};
        for (int turn = 0; turn < 2; turn++) {
            for (int i = 0; i <= 11; i++) {
                for (int n : numbers) {
                    int due = i <= found.steps[n] ? found.first[n][i] : SumChains.NONE;
                    Check.due("by turns first(" + kind + ", " + n + ", " + i + ")", x.first(kind, n, i), due);
                }
            }
            x.first((kind + 1) % 4, 29, 3);
            Check.due("first again of kind " + kind, x.first(kind, 29, 7), found.first[29][7]);
            x.asFew(kind, 47);
            Check.due("first behind asFew of kind " + kind, x.first(kind, 29, 6), found.first[29][6]);
        }
    }

    private static void checkHardest(int kind, Found found) {
        SumChains x = new SumChains();
        for (int k = 0; k <= 9; k++) {
            int n = 1;
            while (found.steps[n] != k) {
                n++;
            }
            Check.due("hardest(" + kind + ", " + k + ")", x.hardest(kind, k), n);
        }
    }

    private static void checkWrong() {
        SumChains x = new SumChains();
        int[] kinds = {-1, 4, Integer.MIN_VALUE, Integer.MAX_VALUE};
        for (int kind : kinds) {
            Check.due("fewest of kind " + kind, x.fewest(kind, 3), SumChains.BAD);
            Check.due("asFew of kind " + kind, x.asFew(kind, 3), SumChains.BAD);
            Check.due("first of kind " + kind, x.first(kind, 3, 0), SumChains.BAD);
            Check.due("hardest of kind " + kind, x.hardest(kind, 3), SumChains.BAD);
        }
        for (int kind = 0; kind < 4; kind++) {
            int most = kind == 2 ? 40 : 160;
            int few = kind == 2 ? 24 : 80;
            int[] bad = {0, -1, Integer.MIN_VALUE, most + 1, Integer.MAX_VALUE};
            for (int n : bad) {
                Check.due("fewest(" + kind + ", " + n + ")", x.fewest(kind, n), SumChains.BAD);
                Check.due("asFew(" + kind + ", " + n + ")", x.asFew(kind, n), SumChains.BAD);
                Check.due("first(" + kind + ", " + n + ", 0)", x.first(kind, n, 0), SumChains.BAD);
                Check.due("first(" + kind + ", " + n + ", 99)", x.first(kind, n, 99), SumChains.BAD);
            }
            Check.due("asFew(" + kind + ", " + (few + 1) + ")", x.asFew(kind, few + 1), SumChains.BAD);
            Check.due("first(" + kind + ", 7, -1)", x.first(kind, 7, -1), SumChains.BAD);
            Check.due("first(" + kind + ", 7, max)", x.first(kind, 7, Integer.MAX_VALUE), SumChains.NONE);
            Check.due("hardest(" + kind + ", 10)", x.hardest(kind, 10), SumChains.BAD);
            Check.due("hardest(" + kind + ", -1)", x.hardest(kind, -1), SumChains.BAD);
        }
        Check.due("hardest(2, 0)", x.hardest(2, 0), SumChains.BAD);
    }

    private static Found allRows(int kind, int most, int steps) {
        Found found = new Found();
        int[] row = new int[steps + 1];
        row[0] = 1;
        tell(kind, most, row, 1, found);
        return found;
    }

    private static void tell(int kind, int most, int[] row, int size, Found found) {
        found.add(row, size);
        if (size == row.length) {
            return;
        }
        boolean[] tried = new boolean[most + 1];
        for (int i = 0; i < size; i++) {
            for (int j = i; j < size; j++) {
                List<Integer> come = comeOf(kind, row, size, i, j);
                for (int number : come) {
                    if (number <= most && !tried[number]) {
                        tried[number] = true;
                        row[size] = number;
                        tell(kind, most, row, size + 1, found);
                    }
                }
            }
        }
    }

    private static List<Integer> comeOf(int kind, int[] row, int size, int i, int j) {
        List<Integer> come = new ArrayList<>(2);
        int sum = row[i] + row[j];
        int difference = Math.abs(row[i] - row[j]);
        if (kind == 2) {
            if (!stands(row, size, sum)) {
                come.add(sum);
            }
            if (difference > 0 && !stands(row, size, difference)) {
                come.add(difference);
            }
        } else if (sum > row[size - 1]) {
            boolean lets = kind == 0 || kind == 1 && j == size - 1
                || kind == 3 && (difference == 0 || stands(row, size, difference));
            if (lets) {
                come.add(sum);
            }
        }
        return come;
    }

    private static boolean stands(int[] row, int size, int number) {
        for (int i = 0; i < size; i++) {
            if (row[i] == number) {
                return true;
            }
        }
        return false;
    }
}
