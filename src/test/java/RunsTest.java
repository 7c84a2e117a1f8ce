import java.util.ArrayList;
import java.util.Collections;
import java.util.HashMap;
import java.util.List;
import java.util.Map;
import java.util.Random;
import java.util.function.ToIntFunction;

/**
 * Long runs of calls by chance: what an object answers depends on its goals, prices, text and chain alone, not on what
 * was asked ahead. Calls that need none of these are held against the same call on a new object.
 */
public final class RunsTest {
    private static final int RUNS = 120, CALLS = 512;
    private static final int BAD = SumChains.BAD, NO = SumChains.NO, FULL = SumChains.FULL, NONE = SumChains.NONE;
    private static final int[] EDGES = {Integer.MIN_VALUE, -1, 0, 1, 2, 4, 5, 12, 13, 24, 25, 40, 41, 60, 61, 80, 81,
        100, 101, 160, 161, 1000, 1001, 99999, 100000, 100001, 1000000, 1000001, Integer.MAX_VALUE};

    private static final Map<String, Integer> known = new HashMap<>();
    private static final Random chance = new Random(20261118);

    private final SumChains x = new SumChains();
    private final List<Integer> goals = new ArrayList<>();
    private final int[] prices = {1, 1};
    private String text = "";
    private PlainChain taken = new PlainChain("1", 0);

    public static void main(String[] args) {
        for (int run = 0; run < RUNS; run++) {
            RunsTest one = new RunsTest();
            for (int call = 0; call < CALLS; call++) {
                one.callByChance();
            }
        }
        Check.end();
    }

    /** Mostly a number that is taken, now and then one that may not be. */
    private static int number(int first, int last) {
        return chance.nextInt(12) == 0 ? EDGES[chance.nextInt(EDGES.length)] : first + chance.nextInt(last - first + 1);
    }

    private static int onNew(String call, ToIntFunction<SumChains> ask) {
        return known.computeIfAbsent(call, unused -> ask.applyAsInt(new SumChains()));
    }

    private void dueAsOnNew(String call, ToIntFunction<SumChains> ask) {
        Check.due(call, ask.applyAsInt(x), onNew(call, ask));
    }

    private void callByChance() {
        switch (chance.nextInt(5)) {
            case 0:
                askForRows();
                break;
            case 1:
                askForRoads();
                break;
            case 2:
                changeGoalsOrPrices();
                break;
            case 3:
                changeText();
                break;
            default:
                askForTheChain();
                break;
        }
    }

    private void askForRows() {
        int kind = number(0, 3);
        int n = number(1, kind == 2 ? 40 : 160);
        int i = number(0, 12);
        int a = number(0, 12);
        int b = number(0, 12);
        switch (chance.nextInt(5)) {
            case 0:
                dueAsOnNew("fewest(" + kind + ", " + n + ")", y -> y.fewest(kind, n));
                break;
            case 1:
                dueAsOnNew("asFew(" + kind + ", " + n + ")", y -> y.asFew(kind, n));
                break;
            case 2:
                dueAsOnNew("first(" + kind + ", " + n + ", " + i + ")", y -> y.first(kind, n, i));
                break;
            case 3:
                dueAsOnNew("hardest(" + kind + ", " + i + ")", y -> y.hardest(kind, i));
                break;
            default:
                dueAsOnNew("led(" + a + ", " + b + ")", y -> y.led(a, b));
                break;
        }
    }

    private void askForRoads() {
        int road = number(0, 4);
        int n = number(1, chance.nextBoolean() ? 1000 : 100000);
        int w = number(2, 4);
        int m = number(1, 100);
        int i = number(0, 20);
        switch (chance.nextInt(3)) {
            case 0:
                dueAsOnNew("road(" + road + ", " + n + ", " + w + ")", y -> y.road(road, n, w));
                break;
            case 1:
                dueAsOnNew("step(" + road + ", " + n + ", " + w + ", " + i + ")", y -> y.step(road, n, w, i));
                break;
            default:
                dueAsOnNew("good(" + road + ", " + w + ", " + m + ")", y -> y.good(road, w, m));
                break;
        }
    }

    private void changeGoalsOrPrices() {
        int n = number(2, 60);
        int what = number(0, 1);
        int v = number(1, 4);
        int to = number(1, 40);
        switch (chance.nextInt(6)) {
            case 0:
            case 1:
                Check.due("goal(" + n + ")", x.goal(n), goalDue(n));
                break;
            case 2:
                Check.due("together() of " + goals, x.together(), togetherDue());
                break;
            case 3:
                if (chance.nextInt(3) == 0) {
                    Check.due("noGoals()", x.noGoals(), goals.size());
                    goals.clear();
                }
                break;
            case 4:
                boolean good = what >= 0 && what <= 1 && v >= 1 && v <= 4;
                Check.due("price(" + what + ", " + v + ")", x.price(what, v), good ? prices[what] : BAD);
                if (good) {
                    prices[what] = v;
                }
                break;
            default:
                Check.due("cheapest(" + to + ")", x.cheapest(to), cheapestDue(to));
                break;
        }
    }

    private int cheapestDue(int n) {
        return onNew("cheapest(" + n + ") by " + prices[0] + ", " + prices[1], y -> {
            y.price(1, prices[1]);
            y.price(0, prices[0]);
            return y.cheapest(n);
        });
    }

    private int goalDue(int n) {
        if (n < 2 || n > 60) {
            return BAD;
        }
        if (goals.contains(n)) {
            return NO;
        }
        if (goals.size() == 4) {
            return FULL;
        }
        goals.add(n);
        return goals.size();
    }

    private int togetherDue() {
        List<Integer> sorted = new ArrayList<>(goals);
        Collections.sort(sorted);
        return onNew("together() of " + sorted, y -> {
            sorted.forEach(y::goal);
            return y.together();
        });
    }

    private void changeText() {
        int kind = number(0, 3);
        PlainChain plain = new PlainChain(text, kind);
        switch (chance.nextInt(4)) {
            case 0:
                Check.due("fault(" + kind + ") of " + text, x.fault(kind), kind < 0 || kind > 3 ? BAD : plain.fault);
                break;
            case 1:
                boolean good = kind >= 0 && kind <= 3;
                int due = !good ? BAD : plain.fault == NONE ? plain.numbers.size() - 1 : NO;
                Check.due("take(" + kind + ") of " + text, x.take(kind), due);
                taken = good && plain.fault == NONE ? plain : taken;
                break;
            case 2:
                if (text.isEmpty() || chance.nextInt(8) == 0) {
                    Check.due("wipe()", x.wipe(), text.length());
                    text = "";
                }
                break;
            default:
                write(chance.nextInt(20) == 0 ? number(1, 8) : 0);
                break;
        }
    }

    /** Writes so many bytes, or, if 0, a number that goes on well most times. */
    private void write(int bytes) {
        String more = text.isEmpty() ? "1" : "," + nextNumber();
        int n = bytes == 0 ? more.length() : bytes;
        long v = chance.nextLong();
        for (int i = 0; i < more.length(); i++) {
            v = v << 8 | more.charAt(i);
        }
        int due = n < 1 || n > 8 ? BAD : text.length() + n > 120 ? FULL : text.length() + n;
        Check.due("write(" + n + ", " + v + ")", x.write(n, v), due);
        for (int left = n - 1; due > 0 && left >= 0; left--) {
            text += (char) (v >> 8 * left & 255);
        }
    }

    private int nextNumber() {
        int kind = chance.nextInt(4);
        List<Integer> numbers = new PlainChain(text, kind).numbers;
        if (numbers.isEmpty()) {
            return 1;
        }
        int a = numbers.get(numbers.size() - 1 - chance.nextInt(Math.min(2, numbers.size())));
        int b = numbers.get(chance.nextInt(numbers.size()));
        return kind == 2 && chance.nextBoolean() ? Math.abs(a - b) : a + b;
    }

    private void askForTheChain() {
        int i = number(0, taken.numbers.size() + 1);
        int number = number(0, 1000000);
        int m = number(2, 1000000);
        int what = number(0, 4);
        boolean there = i >= 0 && i < taken.numbers.size();
        int notThere = i < 0 ? BAD : NONE;
        switch (chance.nextInt(5)) {
            case 0:
                Check.due("chain(" + i + ")", x.chain(i), there ? taken.numbers.get(i) : notThere);
                break;
            case 1:
                Check.due("uses(" + i + ")", x.uses(i), there ? taken.uses(i) : notThere);
                break;
            case 2:
                Check.due("drawers()", x.drawers(), taken.drawers());
                break;
            case 3:
                boolean good = number >= 0 && number <= 1000000 && m >= 2 && m <= 1000000;
                Check.due("power(" + number + ", " + m + ")", x.power(number, m), good ? power(number, m) : BAD);
                break;
            default:
                int[] due = {goals.size(), text.length(), taken.numbers.size() - 1, taken.doublings(), 970};
                Check.due("count(" + what + ")", x.count(what), what >= 0 && what <= 4 ? due[what] : BAD);
                break;
        }
    }

    private long power(int number, int m) {
        long power = 1;
        for (int times = taken.numbers.get(taken.numbers.size() - 1); times > 0; times--) {
            power = power * number % m;
        }
        return power;
    }
}
