import java.util.ArrayList;
import java.util.Arrays;
import java.util.Collections;
import java.util.LinkedHashMap;
import java.util.List;
import java.util.Map;
import java.util.TreeSet;

/** Promises 10 to 12 and the tree of promise 23, against roads that are made in other ways. */
public final class RoadsTest {
    private static final Map<Integer, List<Integer>> tree = new LinkedHashMap<>();
    private static int sizeWithThousand = 0;

    public static void main(String[] args) {
        growTree();
        for (int n = 1; n <= 2100; n++) {
            checkAllRoads(n);
        }
        for (int n = 2101; n <= 100000; n += 97) {
            checkAllRoads(n);
        }
        int[] edges = {32767, 32768, 65535, 65536, 65537, 87381, 99991, 99999, 100000};
        for (int n : edges) {
            checkAllRoads(n);
        }
        checkNumbersOfOne();
        checkGood();
        checkWrong();
        Check.due("count(4)", new SumChains().count(4), sizeWithThousand);
        Check.end();
    }

    private static void growTree() {
        List<Integer> row = List.of(1);
        tree.put(1, List.of(1));
        while (!allStand()) {
            List<Integer> next = new ArrayList<>();
            for (int number : row) {
                for (int ahead : tree.get(number)) {
                    if (!tree.containsKey(number + ahead)) {
                        List<Integer> way = new ArrayList<>(tree.get(number));
                        way.add(number + ahead);
                        tree.put(number + ahead, way);
                        next.add(number + ahead);
                    }
                }
            }
            row = next;
            if (sizeWithThousand == 0 && tree.containsKey(1000)) {
                sizeWithThousand = tree.size();
            }
        }
    }

    private static boolean allStand() {
        for (int n = 1; n <= 1000; n++) {
            if (!tree.containsKey(n)) {
                return false;
            }
        }
        return true;
    }

    private static void checkAllRoads(int n) {
        checkRoad(0, n, 0, halves(n), 0);
        for (int w = 2; w <= 4; w++) {
            checkRoad(1, n, w, figures(n, w), 0);
        }
        checkRoad(2, n, -5, factors(n), 0);
        if (n <= 1000) {
            checkRoad(3, n, 9, tree.get(n), 0);
        }
        checkRoad(4, n, 0, signs(n), 2);
    }

    private static void checkRoad(int road, int n, int w, List<Integer> due, int kind) {
        SumChains x = new SumChains();
        String at = "(" + road + ", " + n + ", " + w;
        Check.due("road" + at + ")", x.road(road, n, w), due.size() - 1);
        for (int i = 0; i < due.size(); i++) {
            Check.due("step" + at + ", " + i + ")", x.step(road, n, w, i), due.get(i));
        }
        Check.due("step behind the end" + at + ")", x.step(road, n, w, due.size()), SumChains.NONE);
        Check.due("step far behind the end" + at + ")", x.step(road, n, w, Integer.MAX_VALUE), SumChains.NONE);
        Check.due("step ahead of the start" + at + ")", x.step(road, n, w, -1), SumChains.BAD);
        Check.holds("a chain" + at + ")", isChain(due, kind));
    }

    private static boolean isChain(List<Integer> row, int kind) {
        for (int i = 1; i < row.size(); i++) {
            boolean comes = false;
            for (int a : row.subList(0, i)) {
                for (int b : row.subList(0, i)) {
                    comes |= a + b == row.get(i) || kind == 2 && a - b == row.get(i);
                }
            }
            boolean rises = kind == 2 ? !row.subList(0, i).contains(row.get(i)) : row.get(i) > row.get(i - 1);
            if (!comes || !rises) {
                return false;
            }
        }
        return row.get(0) == 1;
    }

    private static List<Integer> halves(int n) {
        List<Integer> road = new ArrayList<>();
        for (int at = n; at > 1; at /= 2) {
            road.add(at);
            if (at % 2 == 1) {
                road.add(at - 1);
            }
        }
        road.add(1);
        Collections.reverse(road);
        return road;
    }

    private static List<Integer> figures(int n, int w) {
        TreeSet<Integer> road = new TreeSet<>();
        for (int number = 1; number < 1 << w; number++) {
            road.add(number);
        }
        String written = Integer.toString(n, 1 << w);
        int at = Character.digit(written.charAt(0), 1 << w);
        for (char figure : written.substring(1).toCharArray()) {
            for (int times = 0; times < w; times++) {
                at += at;
                road.add(at);
            }
            at += Character.digit(figure, 1 << w);
            road.add(at);
        }
        Check.due("figures of " + n, at, n);
        return new ArrayList<>(road);
    }

    private static List<Integer> factors(int n) {
        if (n == 1) {
            return List.of(1);
        }
        int prime = 2;
        while (n % prime != 0) {
            prime++;
        }
        List<Integer> road = new ArrayList<>(factors(prime == n ? n - 1 : prime));
        if (prime == n) {
            road.add(n);
            return road;
        }
        for (int number : factors(n / prime)) {
            if (number > 1) {
                road.add(number * prime);
            }
        }
        return road;
    }

    private static List<Integer> signs(int n) {
        List<Integer> figures = new ArrayList<>();
        for (int rest = n; rest > 0; rest = rest / 2) {
            int figure = rest % 2 == 0 ? 0 : 2 - rest % 4;
            figures.add(figure);
            rest -= figure;
        }
        Collections.reverse(figures);
        List<Integer> road = new ArrayList<>(List.of(1));
        int at = 1;
        for (int figure : figures.subList(1, figures.size())) {
            at *= 2;
            road.add(at);
            at += figure;
            if (figure != 0) {
                road.add(at);
            }
        }
        Check.due("signs of " + n, at, n);
        return road;
    }

    private static void checkNumbersOfOne() {
        SumChains x = new SumChains();
        Check.due("road(1, 1, 2)", x.road(1, 1, 2), 2);
        Check.due("road(1, 1, 3)", x.road(1, 1, 3), 6);
        Check.due("road(1, 1, 4)", x.road(1, 1, 4), 14);
        Check.due("road(1, 5, 2)", x.road(1, 5, 2), 4);
        Check.due("road(4, 3, 0)", x.road(4, 3, 0), 3);
        Check.due("step(4, 3, 0, 2)", x.step(4, 3, 0, 2), 4);
        Check.due("step(4, 3, 0, 3)", x.step(4, 3, 0, 3), 3);
    }

    private static void checkGood() {
        for (int road = 0; road <= 3; road++) {
            for (int w = 2; w <= 4; w++) {
                SumChains x = new SumChains();
                int due = 0;
                for (int m = 1; m <= 100; m++) {
                    if (x.road(road, m, w) == x.fewest(0, m)) {
                        due++;
                    }
                    Check.due("good(" + road + ", " + w + ", " + m + ")", x.good(road, w, m), due);
                }
            }
        }
        Check.due("good of a new object", new SumChains().good(3, 0, 77), 76);
        Check.due("good ahead of that", new SumChains().good(3, 0, 76), 76);
    }

    private static void checkWrong() {
        SumChains x = new SumChains();
        int[][] bad = {{-1, 5, 2}, {5, 5, 2}, {0, 0, 2}, {0, -1, 2}, {0, 100001, 2}, {1, 5, 1}, {1, 5, 5},
            {1, 0, 2}, {1, 5, 0}, {1, 5, Integer.MAX_VALUE}, {1, 5, Integer.MIN_VALUE}, {1, 100001, 2}, {2, 0, 0},
            {2, 100001, 0}, {3, 0, 0}, {3, 1001, 0}, {4, 0, 0}, {4, 100001, 0}, {4, Integer.MAX_VALUE, 0},
            {Integer.MIN_VALUE, 1, 2}};
        for (int[] a : bad) {
            Check.due("road of " + Arrays.toString(a), x.road(a[0], a[1], a[2]), SumChains.BAD);
            Check.due("step of " + Arrays.toString(a), x.step(a[0], a[1], a[2], 0), SumChains.BAD);
            Check.due("step 999 of " + Arrays.toString(a), x.step(a[0], a[1], a[2], 999), SumChains.BAD);
        }
        int[][] badGood = {{4, 0, 15}, {-1, 2, 15}, {5, 2, 15}, {0, 2, 0}, {0, 2, 101}, {1, 1, 15}, {1, 5, 15},
            {3, 2, -1}, {2, 2, Integer.MAX_VALUE}};
        for (int[] a : badGood) {
            Check.due("good of " + Arrays.toString(a), x.good(a[0], a[1], a[2]), SumChains.BAD);
        }
    }
}
