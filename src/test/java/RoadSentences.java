import java.util.ArrayList;
import java.util.HashSet;
import java.util.List;

/** How roads go, promises 10 and 11. */
final class RoadSentences {
    // The tree down to its sixth row below the root: a number, then what it gets below it, from the left on.
    private static final int[][] TREE = {{1, 2}, {2, 3, 4}, {3, 5, 6}, {4, 8}, {5, 7, 10}, {6, 9, 12}, {8, 16}, {7, 14},
        {10, 11, 13, 15, 20}, {9, 18}, {12, 24}, {16, 17, 32}, {14, 19, 21, 28}, {11, 22}, {13, 23, 26}, {15, 25, 30},
        {20, 40}, {18, 27, 36}, {24, 48}, {17, 33, 34}, {32, 64}};

    private RoadSentences() {
    }

    static void check() {
        roadsAreChains();
        numbersStandAsTheyCome();
        halvesGoByFigures();
        figuresGoFromTheFirstOn();
        factorsGoByTwoRoads();
        theTreeGrowsFromTheLeft();
        theRoadIsTheWay();
        signsGoFromTheFirstOn();
    }

    private static List<Integer> numbers(int road, int n, int w) {
        SumChains x = new SumChains();
        List<Integer> numbers = new ArrayList<>();
        for (int i = 0; x.step(road, n, w, i) != SumChains.NONE && i < 64; i++) {
            numbers.add(x.step(road, n, w, i));
        }
        return numbers;
    }

    private static void dueRoad(int road, int n, int w, Integer... due) {
        List<Integer> numbers = numbers(road, n, w);
        Check.holds("road " + road + " to " + n + " by " + w + " is " + numbers, numbers.equals(List.of(due)));
        Check.due("road(" + road + ", " + n + ", " + w + ")", new SumChains().road(road, n, w), due.length - 1);
    }

    private static void roadsAreChains() {
        Check.sentence(10, "ROADS to n (1 to 100000; ROAD 3: 1 to 1000), each a CHAIN of KIND 0 (ROAD 4: KIND 2);");
        for (int n = 1; n <= 100000; n += n < 400 ? 1 : 997) {
            for (int road = 0; road <= 4; road++) {
                for (int w = 2; w <= (road == 1 ? 4 : 2); w++) {
                    if (road != 3 || n <= 1000) {
                        checkChain(road, n, w);
                    }
                }
            }
        }
        // Where a figure is less 1, ROAD 4 is no CHAIN of KIND 0.
        Check.holds("road 4 to 3", !Rows.isChain(0, numbers(4, 3, 0)));
        Check.holds("road 4 to 5", Rows.isChain(0, numbers(4, 5, 0)));
    }

    private static void checkChain(int road, int n, int w) {
        String at = "road " + road + " to " + n + " by " + w;
        List<Integer> numbers = numbers(road, n, w);
        int kind = road == 4 ? 2 : 0;
        Check.holds(at + " is a chain: " + numbers, Rows.isChain(kind, numbers));
        Check.holds(at + " leads to it: " + numbers, numbers.contains(n));
        String text = numbers.toString().replaceAll("[^0-9,]", "");
        if (text.length() <= 120) {
            Check.due(at + " is taken", Texts.written(text).take(kind), numbers.size() - 1);
        }
    }

    private static void numbersStandAsTheyCome() {
        Check.sentence(11, "a number that is there already is no new STEP; numbers stand as they come, but:");
        // By signs 4 comes ahead of 3, 16 ahead of 15, 12 ahead of 11.
        dueRoad(4, 3, 0, 1, 2, 4, 3);
        dueRoad(4, 15, 0, 1, 2, 4, 8, 16, 15);
        dueRoad(4, 11, 0, 1, 2, 4, 3, 6, 12, 11);
        // The two halves of 11 by factors come one behind the other.
        dueRoad(2, 11, 0, 1, 2, 4, 8, 10, 11);
        dueRoad(3, 11, 0, 1, 2, 3, 5, 10, 11);
        dueRoad(0, 11, 0, 1, 2, 4, 5, 10, 11);
        for (int n = 1; n <= 1000; n++) {
            for (int road = 0; road <= 4; road++) {
                List<Integer> numbers = numbers(road, n, 2);
                Check.due("unlike numbers of road " + road + " to " + n, new HashSet<>(numbers).size(), numbers.size());
            }
        }
    }

    private static void halvesGoByFigures() {
        Check.sentence(11, "0 HALVES: from the first binary figure on: 1; for each further figure what is there is "
            + "doubled, then 1 more, if it is 1.");
        dueRoad(0, 5, 0, 1, 2, 4, 5);
        dueRoad(0, 6, 0, 1, 2, 3, 6);
        dueRoad(0, 13, 0, 1, 2, 3, 6, 12, 13);
        dueRoad(0, 14, 0, 1, 2, 3, 6, 7, 14);
        dueRoad(0, 22, 0, 1, 2, 4, 5, 10, 11, 22);
        SumChains x = new SumChains();
        for (int n = 1; n <= 400; n++) {
            String figures = Integer.toBinaryString(n);
            int ones = figures.replace("0", "").length();
            Check.due("road(0, " + n + ", 0)", x.road(0, n, 0), figures.length() - 1 + ones - 1);
        }
    }

    private static void figuresGoFromTheFirstOn() {
        Check.sentence(11, "then by figures to the base 2 to the w from the first one on: w times doubled, then the "
            + "figure added (if it is not 0), beginning with the first figure.");
        // 27 is 123 to the base 4, 33 to the base 8, 1 and 11 to the base 16; 30 is 132 to the base 4.
        dueRoad(1, 27, 2, 1, 2, 3, 4, 6, 12, 24, 27);
        dueRoad(1, 27, 3, 1, 2, 3, 4, 5, 6, 7, 12, 24, 27);
        dueRoad(1, 27, 4, 1, 2, 3, 4, 5, 6, 7, 8, 9, 10, 11, 12, 13, 14, 15, 16, 27);
        dueRoad(1, 30, 2, 1, 2, 3, 4, 7, 14, 28, 30);
        // 54 is 312 to the base 4: 6 and 12 come of the first figure.
        dueRoad(1, 54, 2, 1, 2, 3, 6, 12, 13, 26, 52, 54);
        // 300 is 454 to the base 8.
        dueRoad(1, 300, 3, 1, 2, 3, 4, 5, 6, 7, 8, 16, 32, 37, 74, 148, 296, 300);
    }

    private static void factorsGoByTwoRoads() {
        Check.sentence(11, "2 FACTORS: the road to 1 is 1. To a prime n: that to n - 1, then n. To another n: with p "
            + "its least prime: the road to p, then that to n by p, each of its numbers (but 1) times p.");
        dueRoad(2, 35, 0, 1, 2, 4, 5, 10, 20, 30, 35);
        dueRoad(2, 77, 0, 1, 2, 4, 6, 7, 14, 28, 56, 70, 77);
        dueRoad(2, 45, 0, 1, 2, 3, 6, 9, 18, 36, 45);
        dueRoad(2, 12, 0, 1, 2, 4, 8, 12);
        for (int n = 2; n <= 500; n++) {
            int p = 2;
            while (n % p != 0) {
                p++;
            }
            List<Integer> due = new ArrayList<>(numbers(2, p == n ? n - 1 : p, 0));
            for (int number : p == n ? List.of(n) : numbers(2, n / p, 0)) {
                if (number > 1) {
                    due.add(p == n ? number : number * p);
                }
            }
            Check.holds("road 2 to " + n + " is " + due, numbers(2, n, 0).equals(due));
        }
    }

    private static void theTreeGrowsFromTheLeft() {
        Check.sentence(11, "3 THE TREE: 1 is the root; numbers of one row of it from the left on: each gets below it, "
            + "with what stands on the way from 1 to it (from 1 on): it and that number, as far as the sum is not in "
            + "THE TREE yet; row by row till n is there.");
        for (int[] family : TREE) {
            List<Integer> way = numbers(3, family[0], 0);
            for (int i = 1; i < family.length; i++) {
                List<Integer> due = new ArrayList<>(way);
                due.add(family[i]);
                List<Integer> got = numbers(3, family[i], 0);
                Check.holds("road 3 to " + family[i] + " is " + got, got.equals(due));
            }
        }
        // In the next row the order of 19, 21 and 28 is to be seen, and that 38 is 19 twice.
        dueRoad(3, 38, 0, 1, 2, 3, 5, 7, 14, 19, 38);
        dueRoad(3, 35, 0, 1, 2, 3, 5, 7, 14, 21, 35);
        dueRoad(3, 29, 0, 1, 2, 3, 5, 7, 14, 28, 29);
    }

    private static void theRoadIsTheWay() {
        Check.sentence(10, "The road is the way from 1 to n.");
        dueRoad(3, 1, 0, 1);
        dueRoad(3, 23, 0, 1, 2, 3, 5, 10, 13, 23);
        for (int n = 2; n <= 1000; n++) {
            List<Integer> way = numbers(3, n, 0);
            List<Integer> above = way.subList(0, way.size() - 1);
            Check.due("the end of the way to " + n, way.get(way.size() - 1), n);
            Check.holds("the way to " + n + " goes by that to the number above it: " + way,
                numbers(3, way.get(way.size() - 2), 0).equals(above));
        }
    }

    private static void signsGoFromTheFirstOn() {
        Check.sentence(11, "4 SIGNS: n by figures 1, 0, less 1, no two side by side other than 0 (the one way): from "
            + "the first on: doubled, then 1 more or 1 less.");
        dueRoad(4, 7, 0, 1, 2, 4, 8, 7);
        dueRoad(4, 9, 0, 1, 2, 4, 8, 9);
        // 16 less 4 and 1 more
        dueRoad(4, 13, 0, 1, 2, 4, 3, 6, 12, 13);
        // 32 less 4 less 1; 32 less 4 and 1 more; 32 less 8 less 1
        dueRoad(4, 27, 0, 1, 2, 4, 8, 7, 14, 28, 27);
        dueRoad(4, 29, 0, 1, 2, 4, 8, 7, 14, 28, 29);
        dueRoad(4, 23, 0, 1, 2, 4, 3, 6, 12, 24, 23);
        for (int n = 1; n <= 400; n++) {
            List<Integer> numbers = numbers(4, n, 0);
            int changed = -2;
            int doubled = 0;
            for (int i = 1; i < numbers.size(); i++) {
                int by = numbers.get(i) - numbers.get(i - 1);
                if (by == numbers.get(i - 1)) {
                    doubled++;
                } else {
                    Check.due("1 more or 1 less on the way to " + n, Math.abs(by), 1);
                    Check.holds("no two side by side on the way to " + n, doubled - changed >= 2);
                    changed = doubled;
                }
            }
        }
    }
}
