import java.math.BigInteger;
import java.util.ArrayList;
import java.util.List;
import java.util.Random;

/** Promises 15 to 23: texts, faults, the chain that is taken, drawers, uses, powers, counts. */
public final class TextsTest {
    public static void main(String[] args) {
        checkWrite();
        checkFaults();
        checkTake();
        checkDrawers();
        checkPower();
        checkCounts();
        checkByChance();
        Check.end();
    }

    private static void checkWrite() {
        SumChains x = new SumChains();
        int[] bad = {0, -1, 9, Integer.MIN_VALUE, Integer.MAX_VALUE};
        for (int n : bad) {
            Check.due("write(" + n + ", ..)", x.write(n, '1'), SumChains.BAD);
        }
        Check.due("no byte then", x.count(1), 0);
        Check.due("the low byte alone", x.write(1, 0x7fffffffffffff31L), 1);
        Check.due("it is 1", x.fault(0), SumChains.NONE);
        Check.due("eight bytes", x.write(8, 0x2c322c342c382c31L), 9);
        Check.due("two more", x.write(2, -0x10000L + 0x3633), 11);
        Check.due("the highest comes first", x.fault(0), 8);
        Check.due("wipe()", x.wipe(), 11);
        Check.due("wipe() again", x.wipe(), 0);
        for (int times = 1; times <= 14; times++) {
            Check.due("write of 8", x.write(8, 0), 8 * times);
        }
        Check.due("write of 7", x.write(7, -1), 119);
        Check.due("2 are too many", x.write(2, 0), SumChains.FULL);
        Check.due("9 are bad first", x.write(9, 0), SumChains.BAD);
        Check.due("nothing changed", x.count(1), 119);
        Check.due("1 more", x.write(1, 0), 120);
        Check.due("full", x.write(1, 0), SumChains.FULL);
        Check.due("full of 8", x.write(8, 0), SumChains.FULL);
        Check.due("a byte 0", x.fault(0), 0);
        Check.due("wipe() of 120", x.wipe(), 120);
        Check.due("empty", x.fault(3), 0);
    }

    private static void checkFaults() {
        int none = SumChains.NONE;
        checkFault("", 0, 0, 0, 0);
        checkFault("1", none, none, none, none);
        checkFault("2", 0, 0, 0, 0);
        checkFault("12", 0, 0, 0, 0);
        checkFault("01", 0, 0, 0, 0);
        checkFault("0", 0, 0, 0, 0);
        checkFault(",1", 0, 0, 0, 0);
        checkFault(" 1", 0, 0, 0, 0);
        checkFault("1 ", 1, 1, 1, 1);
        checkFault("1x", 1, 1, 1, 1);
        checkFault("1,", 2, 2, 2, 2);
        checkFault("1,,2", 2, 2, 2, 2);
        checkFault("1,1", 2, 2, 2, 2);
        checkFault("1,2,", 4, 4, 4, 4);
        checkFault("1,2,3", none, none, none, none);
        checkFault("1,2,3;", 5, 5, 5, 5);
        checkFault("1,2,9;", 4, 4, 4, 4);
        checkFault("1,2,03", 4, 4, 4, 4);
        checkFault("1,2,000003", 4, 4, 4, 4);
        checkFault("1,2,100000", 4, 4, 4, 4);
        checkFault("1,2,4294967299", 4, 4, 4, 4);
        checkFault("1,2,-3", 4, 4, 4, 4);
        checkFault("1,2,\u00b3", 4, 4, 4, 4);
        checkFault("1,2\u00ff", 3, 3, 3, 3);
        checkFault("1,2,4,3", 6, 6, none, 6);
        checkFault("1,2,4,2", 6, 6, 6, 6);
        checkFault("1,2,4,1", 6, 6, 6, 6);
        checkFault("1,2,4,8,7", 8, 8, none, 8);
        checkFault("1,2,4,8,7,14,13", 8, 8, none, 8);
        checkFault("1,2,3,4", none, none, none, none);
        checkFault("1,2,4,5", none, none, none, 6);
        checkFault("1,2,3,5,6", none, none, none, none);
        checkFault("1,2,3,5,4", 8, 8, none, 8);
        checkFault("1,2,4,5,8", none, 8, none, 6);
        checkFault("1,2,4,6,8", none, none, none, none);
        checkFault("1,2,3,6,9,15", none, none, none, none);
        checkFault("1,2,3,6,10", 8, 8, 8, 8);
        checkFault("1,2,4,8,16,32,64,128,256,512,1024,2048,4096,8192,16384,32768,65536,98304", none, none, none, none);
        checkFault("1,2,4,8,16,32,64,128,256,512,1024,2048,4096,8192,16384,32768,65536,131072", 67, 67, 67, 67);
        checkFault("1,2,3,5,8,13,21,34,55,89,144,233,377,610,987,1597,2584,4181,6765,10946,17711,28657,46368,75025",
            none, none, none, none);
        SumChains x = new SumChains();
        int[] bad = {-1, 4, Integer.MIN_VALUE, Integer.MAX_VALUE};
        for (int kind : bad) {
            Check.due("fault(" + kind + ")", x.fault(kind), SumChains.BAD);
            Check.due("take(" + kind + ")", x.take(kind), SumChains.BAD);
        }
        // 43 unlike numbers of one and two figures fill a text.
        StringBuilder full = new StringBuilder("1");
        for (int number = 2; full.length() < 117; number++) {
            full.append(',').append(number);
        }
        checkFault(full.toString(), none, none, none, none);
        x = Texts.written(full.toString());
        Check.due("steps of the full text", x.take(1), 42);
        Check.due("its last number", x.chain(42), 43);
        Check.due("uses of its 1", x.uses(0), 43);
    }

    private static void checkFault(String text, int sums, int latest, int less, int twins) {
        SumChains x = Texts.written(text);
        int[] due = {sums, latest, less, twins};
        for (int kind = 3; kind >= 0; kind--) {
            Check.due("fault(" + kind + ") of " + text, x.fault(kind), due[kind]);
            Check.due("the chain stays", x.count(2), 0);
        }
        for (int kind = 0; kind < 4; kind++) {
            int steps = (int) text.chars().filter(sign -> sign == ',').count();
            int want = due[kind] == SumChains.NONE ? steps : SumChains.NO;
            Check.due("take(" + kind + ") of " + text, x.take(kind), want);
        }
        Check.due("the text stays", x.count(1), text.length());
    }

    private static void checkTake() {
        SumChains x = Texts.written("1,2,3,5,10,7");
        Check.due("take(0)", x.take(0), SumChains.NO);
        Check.due("chain stays", x.chain(1), SumChains.NONE);
        Check.due("take(2)", x.take(2), 5);
        int[] chain = {1, 2, 3, 5, 10, 7};
        // 2 = 1+1, 3 = 2+1, 5 = 3+2, 10 = 5+5, 7 = 5+2 (a sum goes ahead of 10-3)
        int[] uses = {3, 3, 1, 3, 0, 0};
        for (int i = 0; i < 6; i++) {
            Check.due("chain(" + i + ")", x.chain(i), chain[i]);
            Check.due("uses(" + i + ")", x.uses(i), uses[i]);
        }
        int[] behind = {6, 7, 64, Integer.MAX_VALUE};
        for (int i : behind) {
            Check.due("chain(" + i + ")", x.chain(i), SumChains.NONE);
            Check.due("uses(" + i + ")", x.uses(i), SumChains.NONE);
        }
        int[] bad = {-1, Integer.MIN_VALUE};
        for (int i : bad) {
            Check.due("chain(" + i + ")", x.chain(i), SumChains.BAD);
            Check.due("uses(" + i + ")", x.uses(i), SumChains.BAD);
        }
        Check.due("wipe()", x.wipe(), 12);
        Check.due("chain stays", x.chain(5), 7);
        Check.due("take of the empty text", x.take(2), SumChains.NO);
        Check.due("chain stays", x.count(2), 5);
        x.write(1, '1');
        Check.due("take of 1", x.take(3), 0);
        Check.due("1 alone", x.chain(1), SumChains.NONE);
        Check.due("unused", x.uses(0), 0);
    }

    private static void checkDrawers() {
        checkChain("1", 0, 1, 0);
        checkChain("1,2", 0, 1, 1);
        checkChain("1,2,4,8,16", 0, 1, 4);
        checkChain("1,2,3,6", 0, 2, 2);
        checkChain("1,2,4,3", 2, 3, 2);
        checkChain("1,2,3,5,8,13", 0, 2, 1);
        // 7 = 8-1 while 14 is not yet there
        checkChain("1,2,4,8,7", 2, 2, 3);
        checkChain("1,2,3,4,5,6", 1, 2, 1);
        // By sums 4 = 2+2, 5 = 3+2, 6 = 3+3
        checkChain("1,2,3,4,5,6", 0, 3, 3);
    }

    private static void checkChain(String text, int kind, int drawers, int doublings) {
        SumChains x = Texts.written(text);
        x.take(kind);
        Check.due("drawers of " + text + " by " + kind, x.drawers(), drawers);
        Check.due("doublings of " + text + " by " + kind, x.count(3), doublings);
    }

    private static void checkPower() {
        SumChains x = Texts.written("1,2,3,6,12,24,25,50,75");
        Check.due("take", x.take(0), 8);
        int[] numbers = {0, 1, 2, 3, 999999, 1000000};
        int[] moduli = {2, 3, 7, 1000, 999983, 1000000};
        for (int number : numbers) {
            for (int m : moduli) {
                BigInteger due = BigInteger.valueOf(number).pow(75).mod(BigInteger.valueOf(m));
                Check.due("power(" + number + ", " + m + ")", x.power(number, m), due.longValue());
            }
        }
        int[][] bad = {{-1, 5}, {1000001, 5}, {5, 1}, {5, 0}, {5, -1}, {5, 1000001}, {Integer.MIN_VALUE, 5},
            {Integer.MAX_VALUE, 5}, {5, Integer.MIN_VALUE}, {5, Integer.MAX_VALUE}};
        for (int[] a : bad) {
            Check.due("power(" + a[0] + ", " + a[1] + ")", x.power(a[0], a[1]), SumChains.BAD);
        }
    }

    private static void checkCounts() {
        SumChains x = Texts.written("1,2,4,6");
        x.goal(9);
        Check.due("take", x.take(3), 3);
        Check.due("count(0)", x.count(0), 1);
        Check.due("count(1)", x.count(1), 7);
        Check.due("count(2)", x.count(2), 3);
        Check.due("count(3)", x.count(3), 2);
        Check.due("count(4)", x.count(4), 970);
        Check.due("count(4) again", x.count(4), 970);
        int[] bad = {-1, 5, Integer.MIN_VALUE, Integer.MAX_VALUE};
        for (int what : bad) {
            Check.due("count(" + what + ")", x.count(what), SumChains.BAD);
        }
    }

    private static void checkByChance() {
        Random chance = new Random(20261118);
        SumChains x = null;
        int steps = 0;
        for (int run = 0; run < 20000; run++) {
            // What one text leaves behind must not be seen with the next; an object is good for 512 calls.
            if (run % 8 == 0) {
                x = new SumChains();
                steps = 0;
            }
            int kind = chance.nextInt(4);
            String text = chanceText(chance, chance.nextInt(4) == 0 ? chance.nextInt(4) : kind);
            PlainChain plain = new PlainChain(text, kind);
            x.wipe();
            Texts.write(x, text);
            Check.due("fault(" + kind + ") of " + text, x.fault(kind), plain.fault);
            if (plain.fault != SumChains.NONE) {
                Check.due("take(" + kind + ") of " + text, x.take(kind), SumChains.NO);
                Check.due("the chain stays", x.count(2), steps);
                continue;
            }
            steps = plain.numbers.size() - 1;
            Check.due("take(" + kind + ") of " + text, x.take(kind), steps);
            for (int i = 0; i < plain.numbers.size(); i++) {
                Check.due("chain(" + i + ") of " + text, x.chain(i), plain.numbers.get(i));
                Check.due("uses(" + i + ") by " + kind + " of " + text, x.uses(i), plain.uses(i));
            }
            Check.due("drawers() by " + kind + " of " + text, x.drawers(), plain.drawers());
            Check.due("count(3) by " + kind + " of " + text, x.count(3), plain.doublings());
        }
    }

    /** A chain of a kind, now and then with a wrong number or byte. */
    private static String chanceText(Random chance, int kind) {
        List<Integer> numbers = new ArrayList<>(List.of(1));
        StringBuilder text = new StringBuilder("1");
        int size = 1 + chance.nextInt(12);
        for (int tries = 0; tries < 60 && numbers.size() < size; tries++) {
            int a = numbers.get(chance.nextInt(numbers.size()));
            int b = numbers.get(chance.nextInt(numbers.size()));
            int number = kind == 2 && chance.nextInt(2) == 0 ? Math.abs(a - b) : a + b;
            boolean lets = new PlainChain(text + "," + number, kind).fault == SumChains.NONE;
            if (lets || chance.nextInt(60) == 0) {
                numbers.add(number);
                text.append(',').append(number);
            }
        }
        if (chance.nextInt(6) == 0) {
            text.setCharAt(chance.nextInt(text.length()), (char) (chance.nextInt(3) == 0 ? chance.nextInt(256) : '0'));
        }
        return text.length() > 120 ? text.substring(0, 120) : text.toString();
    }
}
