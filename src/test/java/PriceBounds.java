/** Boundary cases of promises 13 and 14. */
final class PriceBounds {
    private static final int BAD = SumChains.BAD;

    private PriceBounds() {
    }

    static void check() {
        pricesAreTaken();
        twoThingsHavePrices();
        cheapestTakesNumbers();
        theLessPriceCounts();
    }

    private static void pricesAreTaken() {
        Check.sentence(13, "DOUBLING (a number twice) 1 to 4, another SUM 1 to 4");
        for (int what = 0; what <= 1; what++) {
            int w = what;
            Check.range("price(" + what + ", v)", v -> new SumChains().price(w, v), 1, 4);
            SumChains x = new SumChains();
            Check.due("price(" + what + ", 4)", x.price(what, 4), 1);
            Check.due("price(" + what + ", 5)", x.price(what, 5), BAD);
            Check.due("price(" + what + ", 0)", x.price(what, 0), BAD);
            Check.due("price(" + what + ", 4) again", x.price(what, 4), 4);
            Check.due("price(" + what + ", 1)", x.price(what, 1), 4);
            Check.due("the other one stays", x.price(1 - what, 1), 1);
        }
    }

    private static void twoThingsHavePrices() {
        Check.sentence(13, "`int price(int what, int v)`: PRICE of DOUBLING (what = 0), of another SUM (1): what it "
            + "was. BAD.");
        Check.range("price(what, 2)", what -> new SumChains().price(what, 2), 0, 1);
        SumChains x = new SumChains();
        Check.due("price(0, 2)", x.price(0, 2), 1);
        Check.due("price(1, 3)", x.price(1, 3), 1);
        Check.due("price(2, 1)", x.price(2, 1), BAD);
        Check.due("price(-1, 1)", x.price(-1, 1), BAD);
        Check.due("price(2, 5)", x.price(2, 5), BAD);
        Check.due("cheapest(2)", x.cheapest(2), 2);
        Check.due("cheapest(3)", x.cheapest(3), 5);
        Check.due("price(0, 1)", x.price(0, 1), 2);
        Check.due("price(1, 1)", x.price(1, 1), 3);
    }

    private static void cheapestTakesNumbers() {
        Check.sentence(14, "CHEAPEST to n (1 to 40): the least price of a CHAIN of KIND 0;");
        SumChains x = new SumChains();
        Check.range("cheapest(n)", x::cheapest, 1, 40);
        // To 1, 2, 3, 39, 40 by the lowest and the highest prices.
        int[][] due = {{1, 1, 0, 1, 2, 7, 6}, {1, 4, 0, 1, 5, 16, 9}, {4, 1, 0, 4, 5, 11, 11}, {4, 4, 0, 4, 8, 28, 24}};
        int[] numbers = {1, 2, 3, 39, 40};
        for (int[] d : due) {
            x.price(0, d[0]);
            x.price(1, d[1]);
            for (int i = 0; i < numbers.length; i++) {
                String call = "cheapest(" + numbers[i] + ") by " + d[0] + ", " + d[1];
                Check.due(call, x.cheapest(numbers[i]), d[i + 2]);
            }
            Check.due("cheapest(0)", x.cheapest(0), BAD);
            Check.due("cheapest(41)", x.cheapest(41), BAD);
        }
    }

    private static void theLessPriceCounts() {
        Check.sentence(14, "of each number that way that is less.");
        SumChains x = new SumChains();
        x.price(0, 4);
        // 4 comes of 3 and 1 then.
        Check.due("cheapest(4) by 4, 1", x.cheapest(4), 6);
        x.price(1, 3);
        Check.due("cheapest(4) by 4, 3", x.cheapest(4), 8);
        // 1, 2, 3, 4, 7: the 4 in it by the doubling.
        x.price(0, 1);
        x.price(1, 4);
        Check.due("cheapest(7) by 1, 4", x.cheapest(7), 10);
        Check.due("cheapest(4) by 1, 4", x.cheapest(4), 2);
    }
}
