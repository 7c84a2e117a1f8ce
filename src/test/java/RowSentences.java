import java.util.ArrayList;
import java.util.Arrays;
import java.util.List;

/** Kinds of chains, goals, and pairs that are led at once: promises 2 to 9. */
final class RowSentences {
    private static final int PAIR_STEPS = 4, PAIR_MOST = 12;

    private RowSentences() {
    }

    static void check() {
        kindsHaveTheirNumbers();
        goalsAreCounted();
        pairsComeOfTwoAhead();
    }

    private static void kindsHaveTheirNumbers() {
        Check.sentence(2, "By KINDS: 0 SUMS: it is the sum of them; numbers rise. "
            + "1 LATEST: as 0, but one of the two is the number just ahead of it. "
            + "2 LESS: it is their sum, or the greater less the other one (above 0); numbers need not rise. "
            + "3 TWINS: as 0, but the two are alike, or their difference is a number of the CHAIN, too (ahead).");
        // Of each number all rows of so few steps, one by one; 13 tells all four kinds apart.
        for (int n = 2; n <= 24; n++) {
            SumChains x = new SumChains();
            for (int kind = 0; kind < 4; kind++) {
                List<List<Integer>> rows = shortestRows(kind, n);
                String at = "(" + kind + ", " + n + ")";
                Check.due("fewest" + at, x.fewest(kind, n), rows.get(0).size() - 1);
                Check.due("asFew" + at, x.asFew(kind, n), rows.size());
            }
        }
        int[] ofThirteen = {10, 9, 11, 1};
        for (int kind = 0; kind < 4; kind++) {
            Check.due("asFew(" + kind + ", 13)", new SumChains().asFew(kind, 13), ofThirteen[kind]);
        }
    }

    private static List<List<Integer>> shortestRows(int kind, int n) {
        List<List<Integer>> rows = List.of(List.of(1));
        for (int steps = 1; steps < 12; steps++) {
            List<List<Integer>> longer = new ArrayList<>();
            List<List<Integer>> ended = new ArrayList<>();
            for (List<Integer> row : rows) {
                for (int number = 1; number <= (kind == 2 ? 2 * n : n); number++) {
                    List<Integer> next = new ArrayList<>(row);
                    next.add(number);
                    if (Rows.isChain(kind, next)) {
                        (number == n ? ended : longer).add(next);
                    }
                }
            }
            if (!ended.isEmpty()) {
                return ended;
            }
            rows = longer;
        }
        return List.of();
    }

    private static void goalsAreCounted() {
        Check.sentence(6, "`int goal(int n)`: A GOAL: how many.");
        SumChains x = new SumChains();
        int[] goals = {47, 3, 29, 60};
        for (int i = 0; i < goals.length; i++) {
            Check.due("goal(" + goals[i] + ")", x.goal(goals[i]), i + 1);
            Check.due("count(0)", x.count(0), i + 1);
        }
        // Each of them is one now: without 47 the three others would take a step less.
        Check.due("together()", x.together(), 10);
        SumChains three = new SumChains();
        Check.due("goal(60)", three.goal(60), 1);
        Check.due("goal(29)", three.goal(29), 2);
        Check.due("goal(3)", three.goal(3), 3);
        Check.due("together()", three.together(), 9);
    }

    private static void pairsComeOfTwoAhead() {
        Check.sentence(9, "PAIRS (a, b), 0 to 12 each, not both 0: rows of unlike pairs that begin with (1, 0), (0, "
            + "1), each other one the sum of two ahead (or one twice): LED: the fewest STEPS to (a, b) "
            + "(those two: 0).");
        int[][] ledBy = new int[PAIR_MOST + 1][PAIR_MOST + 1];
        for (int[] row : ledBy) {
            Arrays.fill(row, PAIR_STEPS + 1);
        }
        List<int[]> pairs = new ArrayList<>(List.of(new int[] {1, 0}, new int[] {0, 1}));
        ledBy[1][0] = 0;
        ledBy[0][1] = 0;
        lead(pairs, ledBy);
        for (int a = 0; a <= PAIR_MOST; a++) {
            for (int b = a == 0 ? 1 : 0; b <= PAIR_MOST; b++) {
                int got = new SumChains().led(a, b);
                String call = "led(" + a + ", " + b + ")";
                if (ledBy[a][b] <= PAIR_STEPS) {
                    Check.due(call, got, ledBy[a][b]);
                } else {
                    Check.holds(call + " is above " + PAIR_STEPS + ": " + got, got > PAIR_STEPS);
                }
            }
        }
        // Beginning with both of them, a pair with a 0 goes by its own numbers alone.
        for (int n = 1; n <= PAIR_MOST; n++) {
            SumChains x = new SumChains();
            Check.due("led(" + n + ", 0)", x.led(n, 0), x.fewest(0, n));
            Check.due("led(0, " + n + ")", x.led(0, n), x.fewest(0, n));
        }
    }

    /** Notes by how few steps pairs come, by all rows of up to PAIR_STEPS. */
    private static void lead(List<int[]> pairs, int[][] ledBy) {
        int steps = pairs.size() - 1;
        if (steps > PAIR_STEPS) {
            return;
        }
        int size = pairs.size();
        for (int i = 0; i < size; i++) {
            for (int j = i; j < size; j++) {
                int a = pairs.get(i)[0] + pairs.get(j)[0];
                int b = pairs.get(i)[1] + pairs.get(j)[1];
                if (a <= PAIR_MOST && b <= PAIR_MOST) {
                    ledBy[a][b] = Math.min(ledBy[a][b], steps);
                    pairs.add(new int[] {a, b});
                    lead(pairs, ledBy);
                    pairs.remove(size);
                }
            }
        }
    }
}
