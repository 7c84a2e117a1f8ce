import java.math.BigInteger;

/** Boundary cases of promises 19 to 23. */
final class ChainBounds {
    private static final int BAD = SumChains.BAD;

    private ChainBounds() {
    }

    static void check() {
        chainEnds();
        usesEnd();
        usesCountBoth();
        theLesserIsTheGreatest();
        kindsLetWhichTwo();
        sumsGoAhead();
        theLeastGreater();
        oneDrawerAtLeast();
        unusedNumbersLieInTheirStep();
        drawersAreTakenAgain();
        manyDrawers();
        powerTakesNumbers();
        powerTakesModuli();
        powerByTheLastNumber();
        countTakesWhat();
        countsAtTheEdges();
        countOfTheTree();
    }

    private static void chainEnds() {
        Check.sentence(19, "`int chain(int i)`: The i-th number of THE CHAIN. NONE; BAD.");
        Check.row("chain of a new object", new SumChains()::chain, 1);
        Check.row("chain of 1", Texts.taken(0, "1")::chain, 1);
        Check.row("chain of 1,2", Texts.taken(3, "1,2")::chain, 1, 2);
        Check.row("chain of 1,2,4,3", Texts.taken(2, "1,2,4,3")::chain, 1, 2, 4, 3);
        SumChains x = Texts.taken(0, Texts.FULL);
        Check.row("chain of the full text", x::chain, 1, 2, 4, 8, 16, 32, 64, 128, 256, 512, 1024, 2048, 4096, 8192,
            16384, 32768, 65536, 98304, 99328, 99840, 99968, 99984, 99992, 99996, 99998, 99999);
        // A longer one that was taken ahead is not to be seen in a shorter one.
        x.wipe();
        Texts.write(x, "1,2,3");
        Check.due("take", x.take(0), 2);
        Check.row("chain of 1,2,3", x::chain, 1, 2, 3);
    }

    private static void usesEnd() {
        Check.sentence(20, "`int uses(int i)`: USES. NONE; BAD.");
        Check.row("uses of a new object", new SumChains()::uses, 0);
        Check.row("uses of 1", Texts.taken(0, "1")::uses, 0);
        SumChains x = Texts.taken(1, Texts.allTo43());
        Check.due("uses(0) of 43 numbers", x.uses(0), 43);
        Check.due("uses(41) of 43 numbers", x.uses(41), 1);
        Check.due("uses(42) of 43 numbers", x.uses(42), 0);
        Check.due("uses(43) of 43 numbers", x.uses(43), SumChains.NONE);
        x.wipe();
        Texts.write(x, "1,2");
        Check.due("take", x.take(0), 1);
        Check.row("uses of 1,2", x::uses, 2, 0);
    }

    private static void usesCountBoth() {
        Check.sentence(20, "how often it is one of two so (twice, if it is both).");
        for (int kind = 0; kind < 4; kind++) {
            Check.row("uses of 1,2", Texts.taken(kind, "1,2")::uses, 2, 0);
            Check.row("uses of 1,2,3", Texts.taken(kind, "1,2,3")::uses, 3, 1, 0);
            Check.row("uses of 1,2,4", Texts.taken(kind, "1,2,4")::uses, 2, 2, 0);
        }
    }

    private static void theLesserIsTheGreatest() {
        Check.sentence(20, "done by those two ahead that its KIND lets, of which the lesser is the greatest");
        // 4 is 2 twice, 5 is 3 and 2, 6 is 3 twice
        Check.row("uses of 1 to 6", Texts.taken(0, "1,2,3,4,5,6")::uses, 3, 4, 3, 0, 0, 0);
        // 6 is 3 twice, not 4 and 2; 7 is 4 and 3, not 6 and 1
        Check.row("uses of 1,2,3,4,6,7", Texts.taken(0, "1,2,3,4,6,7")::uses, 3, 3, 3, 1, 0, 0);
        // 5 is 3 and 2, though 4 and 1 stand there, too, in rows that need not rise
        Check.row("uses of 1,2,4,3,5", Texts.taken(2, "1,2,4,3,5")::uses, 3, 4, 0, 1, 0);
    }

    private static void kindsLetWhichTwo() {
        Check.sentence(20, "those two ahead that its KIND lets");
        // By the latest alone 4 is 3 and 1, 5 is 4 and 1.
        Check.row("uses by the latest", Texts.taken(1, "1,2,3,4,5")::uses, 5, 1, 1, 1, 0);
        // 9 is 8 and 1: 7 and 2 are not let, as 5 is not there.
        Check.row("uses by twins", Texts.taken(3, "1,2,3,4,7,8,9")::uses, 4, 3, 1, 3, 0, 1, 0);
        Check.row("uses by sums", Texts.taken(0, "1,2,3,4,7,8,9")::uses, 3, 4, 1, 3, 1, 0, 0);
    }

    private static void sumsGoAhead() {
        Check.sentence(20, "(of KIND 2: a sum goes ahead of a difference;");
        // 7 is 5 and 2, not 10 less 3.
        Check.row("uses of 1,2,3,5,10,7", Texts.taken(2, "1,2,3,5,10,7")::uses, 3, 3, 1, 3, 0, 0);
        // 3 is 2 and 1, not 4 less 1.
        Check.row("uses of 1,2,4,3", Texts.taken(2, "1,2,4,3")::uses, 3, 3, 0, 0);
        // 6 is 3 twice, though 7 less 1 is there.
        Check.row("uses of 1,2,3,4,7,6", Texts.taken(2, "1,2,3,4,7,6")::uses, 3, 3, 3, 1, 0, 0);
    }

    private static void theLeastGreater() {
        Check.sentence(20, "of differences that whose greater is the least)");
        // 7 is 8 less 1, not 15 less 8.
        Check.row("uses of 1,2,4,8,16,15,7", Texts.taken(2, "1,2,4,8,16,15,7")::uses, 4, 2, 2, 3, 1, 0, 0);
        // 7 is 8 less 1, not 9 less 2, nor 16 less 9.
        SumChains x = Texts.taken(2, "1,2,4,8,16,9,14,7");
        Check.row("uses of 1,2,4,8,16,9,14,7", x::uses, 4, 3, 2, 4, 1, 0, 0, 0);
        // 14 is 15 less 1, not 16 less 2, though 16 stands ahead of 15.
        Check.row("uses of 1,2,4,8,16,15,14", Texts.taken(2, "1,2,4,8,16,15,14")::uses, 4, 2, 2, 2, 1, 1, 0);
        // 13 is 16 less 3, not 17 less 4, though 4 stands ahead of 3.
        SumChains y = Texts.taken(2, "1,2,4,3,8,16,17,13");
        Check.row("uses of 1,2,4,3,8,16,17,13", y::uses, 4, 3, 2, 1, 2, 2, 0, 0);
    }

    private static void oneDrawerAtLeast() {
        Check.sentence(21, "and its own; 1 at least.");
        Check.due("drawers of a new object", new SumChains().drawers(), 1);
        for (int kind = 0; kind < 4; kind++) {
            Check.due("drawers of 1", Texts.taken(kind, "1").drawers(), 1);
            Check.due("drawers of 1,2", Texts.taken(kind, "1,2").drawers(), 1);
            Check.due("drawers of 1,2,3", Texts.taken(kind, "1,2,3").drawers(), 2);
        }
    }

    private static void unusedNumbersLieInTheirStep() {
        Check.sentence(21, "(one by which none is: in its own STEP alone; the last number: in its STEP)");
        // 4 has a drawer, while 1 and 2 wait for 3.
        Check.due("drawers of 1,2,4,3", Texts.taken(2, "1,2,4,3").drawers(), 3);
        Check.due("drawers of 1,2,3,4", Texts.taken(0, "1,2,3,4").drawers(), 2);
        // 16 is wanted by nobody and lies in its step alone.
        Check.due("drawers of 1,2,4,8,16,9", Texts.taken(2, "1,2,4,8,16,9").drawers(), 3);
        Check.due("drawers of 1,2,4,8,9", Texts.taken(2, "1,2,4,8,9").drawers(), 2);
        Check.due("drawers of 1,2,4,8,16,9,10", Texts.taken(2, "1,2,4,8,16,9,10").drawers(), 4);
        // The 3 of the chain that was taken ahead was wanted till its end; that of this one is wanted by none.
        SumChains x = Texts.taken(0, "1,2,3,6,12,24,48,51");
        Check.due("take again", x.take(0), 7);
        Check.due("drawers of 1,2,3,6,12,24,48,51", x.drawers(), 2);
        x.wipe();
        Texts.write(x, "1,2,3,4,8,16,17,21");
        for (int turn = 0; turn < 3; turn++) {
            Check.due("take of 1,2,3,4,8,16,17,21", x.take(0), 7);
            Check.due("drawers of 1,2,3,4,8,16,17,21", x.drawers(), 3);
        }
    }

    private static void drawersAreTakenAgain() {
        Check.sentence(21, "one that comes may take the DRAWER of a number that is not wanted behind that STEP.");
        Check.due("drawers of doublings", Texts.taken(0, "1,2,4,8,16,32,64,128").drawers(), 1);
        Check.due("drawers of 1,2,3,6,12,24", Texts.taken(0, "1,2,3,6,12,24").drawers(), 2);
        Check.due("drawers of 1,2,3,5,8,13", Texts.taken(0, "1,2,3,5,8,13").drawers(), 2);
        Check.due("drawers of 1,2,4,8,9", Texts.taken(1, "1,2,4,8,9").drawers(), 2);
    }

    private static void manyDrawers() {
        Check.sentence(21, "How many lie there at most at one time:");
        // 17 wants 1, then 19 wants 2, 23 wants 4, 31 wants 8: they all wait, while 16 comes.
        Check.due("drawers of five", Texts.taken(0, "1,2,4,8,16,17,19,23,31").drawers(), 5);
        Check.due("drawers of 43 numbers by the latest", Texts.taken(1, Texts.allTo43()).drawers(), 2);
        // 1024, 512, 128, 16, 8, 4, 2, 1 wait for the last eight steps, while 32768 becomes 65536 and that 98304.
        Check.due("drawers of the full text", Texts.taken(0, Texts.FULL).drawers(), 10);
    }

    private static void powerTakesNumbers() {
        Check.sentence(22, "POWER: x (0 to 1000000)");
        SumChains x = Texts.taken(0, "1,2");
        Check.range("power(x, 999983)", number -> x.power(number, 999983), 0, 1000000);
        Check.due("power(0, 2)", x.power(0, 2), 0);
        Check.due("power(0, 1000000)", x.power(0, 1000000), 0);
        Check.due("power(1000000, 1000000)", x.power(1000000, 1000000), 0);
        Check.due("power(1000000, 999999)", x.power(1000000, 999999), 1);
        Check.due("power(1000000, 999983)", x.power(1000000, 999983), 289);
        Check.due("power(999999, 1000000)", x.power(999999, 1000000), 1);
    }

    private static void powerTakesModuli() {
        Check.sentence(22, "modulo m (2 to 1000000).");
        SumChains x = Texts.taken(0, "1,2,3");
        Check.range("power(3, m)", m -> x.power(3, m), 2, 1000000);
        Check.range("power(1000000, m)", m -> x.power(1000000, m), 2, 1000000);
        Check.due("power(3, 2)", x.power(3, 2), 1);
        Check.due("power(2, 2)", x.power(2, 2), 0);
        Check.due("power(3, 26)", x.power(3, 26), 1);
        Check.due("power(3, 27)", x.power(3, 27), 0);
        Check.due("power(3, 28)", x.power(3, 28), 27);
        Check.due("power(99, 1000000)", x.power(99, 1000000), 970299);
        Check.due("power(100, 1000000)", x.power(100, 1000000), 0);
        Check.due("power(5, 0)", x.power(5, 0), BAD);
        Check.due("power(-1, 1)", x.power(-1, 1), BAD);
    }

    private static void powerByTheLastNumber() {
        Check.sentence(22, "as often times itself as THE CHAIN's last number tells");
        SumChains x = new SumChains();
        Check.due("power by 1", x.power(7, 5), 2);
        Check.due("power of 0 by 1", x.power(0, 5), 0);
        // The last one, not the greatest.
        Check.due("power by 3", Texts.taken(2, "1,2,4,3").power(2, 1000), 8);
        SumChains full = Texts.taken(0, Texts.FULL);
        int[] numbers = {0, 1, 2, 999999, 1000000};
        for (int number : numbers) {
            BigInteger due = BigInteger.valueOf(number).modPow(BigInteger.valueOf(99999), BigInteger.valueOf(999983));
            Check.due("power of " + number + " by 99999", full.power(number, 999983), due.longValue());
        }
    }

    private static void countTakesWhat() {
        Check.sentence(23, "`int count(int what)`: How many: 0 GOALS, 1 bytes of THE TEXT, 2 STEPS of THE CHAIN, "
            + "3 DOUBLINGS among them,");
        Check.range("count(what)", new SumChains()::count, 0, 4);
        SumChains x = Texts.taken(0, "1,2,3");
        Check.range("count(what)", x::count, 0, 4);
        Check.due("count(0)", x.count(0), 0);
        Check.due("count(1)", x.count(1), 5);
        Check.due("count(2)", x.count(2), 2);
        Check.due("count(3)", x.count(3), 1);
    }

    private static void countsAtTheEdges() {
        Check.sentence(23, "3 DOUBLINGS among them");
        SumChains x = new SumChains();
        for (int what = 0; what <= 3; what++) {
            Check.due("count(" + what + ") of a new object", x.count(what), 0);
        }
        SumChains full = Texts.taken(0, Texts.FULL);
        for (int goal = 57; goal <= 60; goal++) {
            full.goal(goal);
        }
        int[] due = {4, 120, 25, 16};
        for (int what = 0; what <= 3; what++) {
            Check.due("count(" + what + ") of a full object", full.count(what), due[what]);
        }
        full.wipe();
        full.noGoals();
        Check.due("count(0) then", full.count(0), 0);
        Check.due("count(1) then", full.count(1), 0);
        Check.due("count(2) then", full.count(2), 25);
        Check.due("count(3) then", full.count(3), 16);
        // By sums 4 is 2 twice and 6 is 3 twice, by the latest neither.
        Check.due("doublings by sums", Texts.taken(0, "1,2,3,4,5,6").count(3), 3);
        Check.due("doublings by the latest", Texts.taken(1, "1,2,3,4,5,6").count(3), 1);
        Check.due("doublings by twins", Texts.taken(3, "1,2,3,4,5,6").count(3), 3);
        Check.due("doublings of 1", Texts.taken(2, "1").count(3), 0);
        // They are counted anew with each chain that is taken.
        SumChains again = Texts.taken(0, "1,2,3,4,5,6");
        for (int turn = 0; turn < 3; turn++) {
            Check.due("fault(0)", again.fault(0), SumChains.NONE);
            Check.due("take(1) again", again.take(1), 5);
            Check.due("doublings by the latest again", again.count(3), 1);
            Check.due("take(0) again", again.take(0), 5);
            Check.due("doublings by sums again", again.count(3), 3);
        }
    }

    private static void countOfTheTree() {
        Check.sentence(23, "4 numbers in THE TREE when 1000 came (after the row with it is done). BAD.");
        Check.due("count(4) of a new object", new SumChains().count(4), 970);
        SumChains x = new SumChains();
        x.road(3, 1, 0);
        Check.due("count(4) behind a road to 1", x.count(4), 970);
        x.road(3, 1000, 0);
        Check.due("count(4) behind a road to 1000", x.count(4), 970);
        Check.due("count(5)", x.count(5), BAD);
        Check.due("count(-1)", x.count(-1), BAD);
    }
}
