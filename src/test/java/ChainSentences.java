import java.math.BigInteger;
import java.util.ArrayList;
import java.util.Arrays;
import java.util.List;

/** The cheapest chain, and what THE CHAIN does: promises 14 and 20 to 22. */
final class ChainSentences {
    private static final int BAD = SumChains.BAD;

    private ChainSentences() {
    }

    static void check() {
        cheapestIsTheLeastOfAll();
        eachStepIsDoneByTwo();
        usesOfEachNumber();
        numbersLieTillTheirLastStep();
        stepsCountWhatIsWanted();
        drawersAreAsFewAsDo();
        powersGoByTheChain();
    }

    private static void cheapestIsTheLeastOfAll() {
        Check.sentence(14, "`int cheapest(int n)`: CHEAPEST. BAD.");
        for (int doubling = 1; doubling <= 4; doubling++) {
            for (int sum = 1; sum <= 4; sum++) {
                SumChains x = new SumChains();
                x.price(0, doubling);
                x.price(1, sum);
                int[] least = new int[17];
                Arrays.fill(least, Integer.MAX_VALUE);
                tellPrices(new ArrayList<>(List.of(1)), 0, doubling, sum, least);
                for (int n = 1; n < least.length; n++) {
                    Check.due("cheapest(" + n + ") by " + doubling + ", " + sum, x.cheapest(n), least[n]);
                }
                Check.due("cheapest(0)", x.cheapest(0), BAD);
                Check.due("cheapest(41)", x.cheapest(41), BAD);
            }
        }
    }

    /** Notes the price of all rising rows of up to six steps: up to 16 no longer one is cheaper. */
    private static void tellPrices(List<Integer> row, int price, int doubling, int sum, int[] least) {
        int latest = row.get(row.size() - 1);
        least[latest] = Math.min(least[latest], price);
        if (row.size() > 6) {
            return;
        }
        for (int number = latest + 1; number < least.length; number++) {
            int cheaper = Integer.MAX_VALUE;
            for (int a : row) {
                if (row.contains(number - a)) {
                    cheaper = Math.min(cheaper, 2 * a == number ? doubling : sum);
                }
            }
            if (cheaper < Integer.MAX_VALUE) {
                row.add(number);
                tellPrices(row, price + cheaper, doubling, sum, least);
                row.remove(row.size() - 1);
            }
        }
    }

    private static void eachStepIsDoneByTwo() {
        Check.sentence(20, "Each STEP of THE CHAIN is done by those two ahead that its KIND lets, of which the lesser "
            + "is the greatest (of KIND 2: a sum goes ahead of a difference; of differences that whose greater is "
            + "the least).");
        String[] texts = {"1", "1,2", "1,2,3,4,5,6", "1,2,4,6,7,13", "1,2,3,5,8,13,21", Texts.FULL};
        for (String text : texts) {
            for (int kind = 0; kind < 4; kind++) {
                SumChains x = Texts.written(text);
                int steps = x.take(kind);
                int uses = 0;
                for (int i = 0; i <= steps; i++) {
                    uses += x.uses(i);
                }
                // Two of them do each step.
                Check.due("all uses of " + text + " by " + kind, uses, steps < 0 ? 0 : 2 * steps);
            }
        }
        // 7 is 4 and 3 by KIND 0, 6 and 1 by KIND 1; 11 is 6 and 5 by KIND 3, whose 9 for 10 and 1 is not there
        dueUses(0, "1,2,3,4,5,6,7", 3, 4, 4, 1, 0, 0, 0);
        dueUses(1, "1,2,3,4,5,6,7", 7, 1, 1, 1, 1, 1, 0);
        dueUses(3, "1,2,3,5,6,10,11", 3, 2, 3, 3, 1, 0, 0);
        // By KIND 2: 5 is 3 and 2, though 6 less 1 is there; 15 is 16 less 1; 11 is 12 less 1, not 15 less 4
        dueUses(2, "1,2,3,6,5", 3, 2, 3, 0, 0);
        dueUses(2, "1,2,4,8,16,15,12,11", 4, 2, 3, 3, 1, 0, 1, 0);
    }

    private static void dueUses(int kind, String text, int... due) {
        Check.row("uses by " + kind + " of " + text, Texts.taken(kind, text)::uses, due);
    }

    private static void usesOfEachNumber() {
        Check.sentence(20, "USES of the i-th number of THE CHAIN: how often it is one of two so (twice, if it is "
            + "both).");
        // 1 twice for 2, once for 3; 2 once for 3; 3 twice for 6, once for 9; 6 once for 9
        dueUses(0, "1,2,3,6,9", 3, 1, 3, 1, 0);
        // 5 = 4 + 1, 9 = 5 + 4, 18 = 9 + 9
        dueUses(0, "1,2,4,5,9,18", 3, 2, 2, 1, 2, 0);
        // The same numbers have other uses, if another kind does the steps.
        dueUses(0, "1,2,3,4", 3, 3, 0, 0);
        dueUses(1, "1,2,3,4", 4, 1, 1, 0);
    }

    private static void dueDrawers(int kind, String text, int due) {
        Check.due("drawers by " + kind + " of " + text, Texts.taken(kind, text).drawers(), due);
    }

    private static void numbersLieTillTheirLastStep() {
        Check.sentence(21, "DRAWERS: a number lies in a DRAWER from its STEP till the last STEP that is done by it "
            + "(one by which none is: in its own STEP alone; the last number: in its STEP);");
        // 1 lies there till the end, beside the latest one.
        dueDrawers(0, "1,2,4,8,16,17", 2);
        // 1 and 2 lie there till 19: 17 is 16 and 1, 19 is 17 and 2.
        dueDrawers(0, "1,2,4,8,16,17,19", 3);
        // 2 lies there from its own step on, not ahead of it, and no longer than till 10.
        dueDrawers(0, "1,2,4,8,10,20,40", 2);
        dueDrawers(0, "1,2,4,8,10,11", 3);
        // 3 or 5 is wanted by none: it lies there in its step alone, beside 2, beside 4, or beside 1 and 2.
        dueDrawers(0, "1,2,3,4,8,16", 2);
        dueDrawers(0, "1,2,4,5,8,16", 2);
        dueDrawers(2, "1,2,4,5,3,6", 3);
        // 5 lies there no more, while 16 comes and 8 waits for 24.
        dueDrawers(0, "1,2,4,5,8,16,24", 2);
    }

    private static void stepsCountWhatIsWanted() {
        Check.sentence(21, "How many lie there at most at one time: of each STEP those that it or a later one wants, "
            + "from ahead; or those from ahead that a later one wants, and its own; 1 at least.");
        dueDrawers(0, "1", 1);
        dueDrawers(0, "1,2", 1);
        // 3 wants 1 and 2, from ahead; no later one wants them.
        dueDrawers(0, "1,2,3", 2);
        // While 4 comes, 1 and 2 are wanted by later ones, and 4 is the step's own.
        dueDrawers(0, "1,2,4,5,7", 3);
        dueDrawers(0, "1,2,4,8,9,11,15", 4);
        // 4 is its step's own, though none wants it, while 1 and 2 wait for 3.
        dueDrawers(2, "1,2,4,3", 3);
    }

    private static void drawersAreAsFewAsDo() {
        Check.sentence(21, "`int drawers()`: DRAWERS.");
        for (int kind = 0; kind < 4; kind++) {
            fillDrawers(kind, new ArrayList<>(List.of(1)));
        }
    }

    /** Puts numbers of all short rows into drawers, each into the first one that is free when it comes. */
    private static void fillDrawers(int kind, List<Integer> row) {
        if (row.size() >= 5) {
            String text = row.toString().replaceAll("[^0-9,]", "");
            SumChains x = Texts.taken(kind, text);
            Check.due("drawers by " + kind + " of " + text, x.drawers(), drawersFilled(kind, row));
        }
        if (row.size() == 6) {
            return;
        }
        for (int number = 1; number <= 32; number++) {
            row.add(number);
            if (Rows.isChain(kind, row)) {
                fillDrawers(kind, row);
            }
            row.remove(row.size() - 1);
        }
    }

    private static int drawersFilled(int kind, List<Integer> row) {
        int[] lastWanted = new int[row.size()];
        for (int step = 0; step < row.size(); step++) {
            lastWanted[step] = step;
            for (int number : twoOf(kind, row.subList(0, step), row.get(step))) {
                lastWanted[row.indexOf(number)] = step;
            }
        }
        List<Integer> drawers = new ArrayList<>();
        for (int step = 0; step < row.size(); step++) {
            int free = 0;
            while (free < drawers.size() && lastWanted[drawers.get(free)] > step) {
                free++;
            }
            if (free == drawers.size()) {
                drawers.add(step);
            } else {
                drawers.set(free, step);
            }
        }
        return drawers.size();
    }

    /** The two by which a number comes: sums from the greatest lesser one on, then differences from the least. */
    private static List<Integer> twoOf(int kind, List<Integer> ahead, int number) {
        for (int lesser = number / 2; lesser > 0; lesser--) {
            int greater = number - lesser;
            boolean both = ahead.contains(lesser) && ahead.contains(greater);
            boolean latest = both && ahead.indexOf(greater) == ahead.size() - 1;
            boolean twins = lesser == greater || ahead.contains(greater - lesser);
            if (both && (kind != 1 || latest) && (kind != 3 || twins)) {
                return List.of(lesser, greater);
            }
        }
        for (int lesser = 1; lesser <= 64; lesser++) {
            if (ahead.contains(lesser) && ahead.contains(number + lesser)) {
                return List.of(lesser, number + lesser);
            }
        }
        return List.of();
    }

    private static void powersGoByTheChain() {
        Check.sentence(22, "`int power(int x, int m)`: POWER. BAD.");
        SumChains x = Texts.taken(0, "1,2,3,5,10,13,23");
        BigInteger last = BigInteger.valueOf(23);
        for (int number = 0; number <= 30; number++) {
            for (int m = 2; m <= 30; m++) {
                BigInteger due = BigInteger.valueOf(number).modPow(last, BigInteger.valueOf(m));
                Check.due("power(" + number + ", " + m + ")", x.power(number, m), due.longValue());
            }
        }
        Check.due("power(-1, 2)", x.power(-1, 2), BAD);
        Check.due("power(1000001, 2)", x.power(1000001, 2), BAD);
        Check.due("power(2, 1)", x.power(2, 1), BAD);
        Check.due("power(2, 1000001)", x.power(2, 1000001), BAD);
    }
}
