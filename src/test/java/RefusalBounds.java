import java.util.ArrayList;
import java.util.List;
import java.util.function.Supplier;
import java.util.function.ToIntFunction;

/** What a refused call leaves as it was: after it, an object answers as its twin does that was not asked. */
final class RefusalBounds {
    private static final int BAD = SumChains.BAD, NO = SumChains.NO, FULL = SumChains.FULL, NONE = SumChains.NONE;

    private RefusalBounds() {
    }

    static void check() {
        badChangesNothing();
        noChangesNothing();
        fullChangesNothing();
        noneChangesNothing();
        theFirstOfSeveral();
    }

    private static SumChains halfFull() {
        SumChains x = Texts.taken(2, "1,2,4,3");
        x.goal(23);
        x.goal(29);
        x.price(0, 3);
        x.price(1, 2);
        x.first(0, 23, 2);
        x.road(2, 15, 0);
        x.wipe();
        Texts.write(x, "1,2,3;");
        return x;
    }

    private static SumChains full() {
        SumChains x = Texts.taken(0, Texts.FULL);
        x.goal(60);
        x.goal(2);
        x.goal(47);
        x.goal(59);
        x.price(0, 4);
        return x;
    }

    /** All that can be seen of an object; the last of these calls change it. */
    private static List<Integer> seen(SumChains x) {
        List<Integer> seen = new ArrayList<>();
        for (int what = 0; what <= 4; what++) {
            seen.add(x.count(what));
        }
        for (int kind = 0; kind < 4; kind++) {
            seen.add(x.fault(kind));
        }
        for (int i = 0; i <= 26; i++) {
            seen.add(x.chain(i));
            seen.add(x.uses(i));
        }
        seen.add(x.drawers());
        seen.add(x.power(3, 999983));
        seen.add(x.together());
        seen.add(x.first(0, 23, 4));
        seen.add(x.cheapest(39));
        seen.add(x.price(0, 1));
        seen.add(x.price(1, 1));
        for (int n = 2; n <= 60; n++) {
            seen.add(x.goal(n));
        }
        seen.add(x.noGoals());
        seen.add(x.write(1, ','));
        seen.add(x.take(0));
        seen.add(x.wipe());
        return seen;
    }

    private static void leaves(String call, Supplier<SumChains> made, ToIntFunction<SumChains> refused, int due) {
        SumChains asked = made.get();
        Check.due(call, refused.applyAsInt(asked), due);
        Check.due(call + " again", refused.applyAsInt(asked), due);
        List<Integer> got = seen(asked);
        List<Integer> want = seen(made.get());
        Check.holds("behind " + call + " " + got + " is " + want, got.equals(want));
    }

    private static void everywhere(String call, ToIntFunction<SumChains> refused, int due) {
        leaves(call + ", new", SumChains::new, refused, due);
        leaves(call + ", half full", RefusalBounds::halfFull, refused, due);
        leaves(call + ", full", RefusalBounds::full, refused, due);
    }

    private static void badChangesNothing() {
        Check.sentence(1, "BAD: a number is none that is told.");
        everywhere("fewest(4, 3)", x -> x.fewest(4, 3), BAD);
        everywhere("fewest(0, 161)", x -> x.fewest(0, 161), BAD);
        everywhere("asFew(0, 81)", x -> x.asFew(0, 81), BAD);
        everywhere("first(2, 41, 0)", x -> x.first(2, 41, 0), BAD);
        everywhere("hardest(2, 3)", x -> x.hardest(2, 3), BAD);
        everywhere("goal(1)", x -> x.goal(1), BAD);
        everywhere("goal(61)", x -> x.goal(61), BAD);
        everywhere("led(0, 0)", x -> x.led(0, 0), BAD);
        everywhere("led(13, 1)", x -> x.led(13, 1), BAD);
        everywhere("road(0, 100001, 0)", x -> x.road(0, 100001, 0), BAD);
        everywhere("step(1, 15, 5, 0)", x -> x.step(1, 15, 5, 0), BAD);
        everywhere("good(4, 0, 15)", x -> x.good(4, 0, 15), BAD);
        everywhere("price(0, 5)", x -> x.price(0, 5), BAD);
        everywhere("price(1, 0)", x -> x.price(1, 0), BAD);
        everywhere("price(2, 1)", x -> x.price(2, 1), BAD);
        everywhere("cheapest(41)", x -> x.cheapest(41), BAD);
        everywhere("write(0, v)", x -> x.write(0, '1'), BAD);
        everywhere("write(9, v)", x -> x.write(9, '1'), BAD);
        everywhere("fault(4)", x -> x.fault(4), BAD);
        everywhere("take(4)", x -> x.take(4), BAD);
        everywhere("take(-1)", x -> x.take(-1), BAD);
        everywhere("chain(-1)", x -> x.chain(-1), BAD);
        everywhere("uses(-1)", x -> x.uses(-1), BAD);
        everywhere("power(5, 1)", x -> x.power(5, 1), BAD);
        everywhere("count(5)", x -> x.count(5), BAD);
    }

    private static void noChangesNothing() {
        Check.sentence(1, "NO: not as things stand.");
        leaves("goal(23)", RefusalBounds::halfFull, x -> x.goal(23), NO);
        leaves("goal(59)", RefusalBounds::full, x -> x.goal(59), NO);
        for (int kind = 0; kind < 4; kind++) {
            int k = kind;
            leaves("take of nothing", SumChains::new, x -> x.take(k), NO);
            leaves("take of a fault", RefusalBounds::halfFull, x -> x.take(k), NO);
        }
        leaves("take(3) of sums", RefusalBounds::fullOfSums, x -> x.take(3), NO);
        leaves("take(1) of sums", RefusalBounds::fullOfSums, x -> x.take(1), NO);
    }

    private static SumChains fullOfSums() {
        SumChains x = Texts.taken(2, "1,2,4,3,7,14,13");
        x.wipe();
        Texts.write(x, "1,2,4,5,8");
        return x;
    }

    private static void fullChangesNothing() {
        Check.sentence(1, "FULL. Of several the first; nothing changes then.");
        leaves("goal(3)", RefusalBounds::full, x -> x.goal(3), FULL);
        leaves("goal(58)", RefusalBounds::full, x -> x.goal(58), FULL);
        for (int n = 1; n <= 8; n++) {
            int bytes = n;
            leaves("write(" + n + ", v)", RefusalBounds::full, x -> x.write(bytes, 0x3131313131313131L), FULL);
        }
        leaves("write(2, v) at 119", RefusalBounds::almostFull, x -> x.write(2, 0x3939), FULL);
        leaves("write(8, v) at 119", RefusalBounds::almostFull, x -> x.write(8, 0x3939393939393939L), FULL);
    }

    private static SumChains almostFull() {
        return Texts.written(Texts.FULL.substring(0, 119));
    }

    private static void noneChangesNothing() {
        Check.sentence(1, "NONE: there is none.");
        everywhere("first(0, 7, 5)", x -> x.first(0, 7, 5), NONE);
        everywhere("step(0, 7, 0, 5)", x -> x.step(0, 7, 0, 5), NONE);
        everywhere("chain(26)", x -> x.chain(26), NONE);
        everywhere("uses(26)", x -> x.uses(26), NONE);
        leaves("fault(0)", RefusalBounds::full, x -> x.fault(0), NONE);
        leaves("fault(2)", RefusalBounds::fullOfSums, x -> x.fault(2), NONE);
    }

    private static void theFirstOfSeveral() {
        Check.sentence(1, "Of several the first;");
        Check.due("goal: BAD, FULL", full().goal(61), BAD);
        Check.due("goal: NO, FULL", full().goal(60), NO);
        Check.due("write: BAD, FULL", full().write(9, 0), BAD);
        Check.due("take: BAD, NO", halfFull().take(4), BAD);
        Check.due("first: BAD, NONE", full().first(0, 161, 99), BAD);
        Check.due("step: BAD, NONE", full().step(3, 1001, 0, 99), BAD);
    }
}
