import java.util.Arrays;

/** Promises 13 and 14, against all rows that a price allows. */
public final class PricesTest {
    private static final int MOST = 40;
    private static final int[] cheapest = new int[MOST + 1];

    public static void main(String[] args) {
        for (int doubling = 1; doubling <= 4; doubling++) {
            for (int sum = 1; sum <= 4; sum++) {
                checkPrices(doubling, sum);
            }
        }
        checkWrong();
        Check.end();
    }

    private static void checkPrices(int doubling, int sum) {
        SumChains x = new SumChains();
        Check.due("price(0, ..)", x.price(0, doubling), 1);
        Check.due("price(1, ..)", x.price(1, sum), 1);
        int[] got = new int[MOST + 1];
        int dearest = 0;
        for (int n = 1; n <= MOST; n++) {
            got[n] = x.cheapest(n);
            dearest = Math.max(dearest, got[n]);
        }
        // All rows that cost no more than the dearest answer: if an answer is too high or too low, these tell.
        Arrays.fill(cheapest, Integer.MAX_VALUE);
        int[] row = new int[MOST + 1];
        row[0] = 1;
        tell(row, 1, 0, new int[] {doubling, sum, Math.min(28, dearest)});
        for (int n = 1; n <= MOST; n++) {
            Check.due("cheapest(" + n + ") by " + doubling + ", " + sum, got[n], cheapest[n]);
        }
        Check.due("price(0, 1)", x.price(0, 1), doubling);
        Check.due("price(1, 1)", x.price(1, 1), sum);
        for (int n = 1; n <= MOST; n++) {
            Check.due("cheapest(" + n + ") by 1, 1", x.cheapest(n), x.fewest(0, n));
        }
    }

    private static void tell(int[] row, int size, int paid, int[] prices) {
        int last = row[size - 1];
        cheapest[last] = Math.min(cheapest[last], paid);
        int[] cost = new int[MOST + 1];
        Arrays.fill(cost, Integer.MAX_VALUE);
        for (int i = 0; i < size; i++) {
            for (int j = i; j < size; j++) {
                int number = row[i] + row[j];
                if (number > last && number <= MOST) {
                    cost[number] = Math.min(cost[number], i == j ? prices[0] : prices[1]);
                }
            }
        }
        for (int number = last + 1; number <= MOST; number++) {
            if (cost[number] < Integer.MAX_VALUE && paid + cost[number] <= prices[2]) {
                row[size] = number;
                tell(row, size + 1, paid + cost[number], prices);
            }
        }
    }

    private static void checkWrong() {
        SumChains x = new SumChains();
        int[][] bad = {{-1, 1}, {2, 1}, {0, 0}, {0, 5}, {1, 0}, {1, 5}, {0, -1}, {1, Integer.MAX_VALUE},
            {Integer.MIN_VALUE, 1}};
        for (int[] a : bad) {
            Check.due("price of " + Arrays.toString(a), x.price(a[0], a[1]), SumChains.BAD);
        }
        Check.due("nothing changed", x.price(0, 4), 1);
        Check.due("nothing changed", x.price(1, 2), 1);
        int[] badNumbers = {0, -1, 41, Integer.MIN_VALUE, Integer.MAX_VALUE};
        for (int n : badNumbers) {
            Check.due("cheapest(" + n + ")", x.cheapest(n), SumChains.BAD);
        }
        Check.due("4 = 3 + 1 is as dear as 2 twice", x.cheapest(4), 8);
        Check.due("1 costs nothing", x.cheapest(1), 0);
    }
}
