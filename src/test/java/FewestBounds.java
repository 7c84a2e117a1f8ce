/** Boundary cases of promises 2 to 5. */
final class FewestBounds {
    private static final int BAD = SumChains.BAD, NONE = SumChains.NONE;
    private static final int[] MOST = {160, 160, 40, 160};
    private static final int[] FEW_MOST = {80, 80, 24, 80};

    private FewestBounds() {
    }

    static void check() {
        fewestToOne();
        fewestTakesNumbers();
        fewestTakesKinds();
        oneTwiceIsTaken();
        numbersRise();
        theLatestIsOneOfTwo();
        differencesAreAboveNothing();
        numbersUpToTwiceN();
        differencesStandToo();
        asFewTakesNumbers();
        asFewTakesKinds();
        asFewCountsRows();
        firstBeginsWithOne();
        firstIsGreatestAhead();
        firstEnds();
        firstTakesWhatFewestTakes();
        hardestTakesSteps();
        hardestTakesKinds();
        hardestIsLeast();
    }

    private static void fewestToOne() {
        Check.sentence(2, "FEWEST of a KIND to n: the fewest STEPS of a CHAIN that ends with n (n 1: 0).");
        for (int kind = 0; kind < 4; kind++) {
            Check.due("fewest(" + kind + ", 1)", new SumChains().fewest(kind, 1), 0);
            Check.due("fewest(" + kind + ", 2)", new SumChains().fewest(kind, 2), 1);
            Check.due("fewest(" + kind + ", 3)", new SumChains().fewest(kind, 3), 2);
        }
    }

    private static void fewestTakesNumbers() {
        Check.sentence(2, "n is 1 to 160 for KINDS 0, 1, 3, 1 to 40 for KIND 2");
        int[] ofLast = {8, 8, 6, 8};
        int[] ofLastButOne = {10, 10, 7, 11};
        for (int kind = 0; kind < 4; kind++) {
            SumChains x = new SumChains();
            int k = kind;
            Check.range("fewest(" + kind + ", n)", n -> x.fewest(k, n), 1, MOST[kind]);
            Check.due("fewest of the last number of " + kind, x.fewest(kind, MOST[kind]), ofLast[kind]);
            Check.due("fewest of the last but one of " + kind, x.fewest(kind, MOST[kind] - 1), ofLastButOne[kind]);
        }
        // 41 is too large for KIND 2 alone.
        Check.due("fewest(0, 41)", new SumChains().fewest(0, 41), 7);
        Check.due("fewest(1, 41)", new SumChains().fewest(1, 41), 7);
        Check.due("fewest(3, 41)", new SumChains().fewest(3, 41), 8);
    }

    private static void fewestTakesKinds() {
        Check.sentence(2, "`int fewest(int kind, int n)`: FEWEST. BAD.");
        SumChains x = new SumChains();
        Check.range("fewest(kind, 1)", kind -> x.fewest(kind, 1), 0, 3);
        Check.range("fewest(kind, 3)", kind -> x.fewest(kind, 3), 0, 3);
        Check.range("fewest(kind, 40)", kind -> x.fewest(kind, 40), 0, 3);
        Check.due("fewest(-1, 0)", x.fewest(-1, 0), BAD);
        Check.due("fewest(4, 161)", x.fewest(4, 161), BAD);
    }

    private static void oneTwiceIsTaken() {
        Check.sentence(2, "each other one, a STEP, comes of two ahead of it (or one twice).");
        for (int kind = 0; kind < 4; kind++) {
            SumChains x = new SumChains();
            for (int steps = 1; 1 << steps <= MOST[kind]; steps++) {
                Check.due("fewest(" + kind + ", " + (1 << steps) + ")", x.fewest(kind, 1 << steps), steps);
            }
        }
    }

    private static void numbersRise() {
        Check.sentence(2, "0 SUMS: it is the sum of them; numbers rise.");
        SumChains x = new SumChains();
        // Without taking away 31 takes a step more.
        Check.due("fewest(0, 31)", x.fewest(0, 31), 7);
        Check.due("fewest(1, 31)", x.fewest(1, 31), 7);
        Check.due("fewest(3, 31)", x.fewest(3, 31), 7);
        Check.due("fewest(2, 31)", x.fewest(2, 31), 6);
        // 1, 2, 3, 5, 6, 11 is a row, 1, 2, 3, 6, 5, 11 is no other one.
        Check.due("asFew(0, 11)", x.asFew(0, 11), 15);
    }

    private static void theLatestIsOneOfTwo() {
        Check.sentence(3, "1 LATEST: as 0, but one of the two is the number just ahead of it.");
        SumChains x = new SumChains();
        // 1, 2, 4, 5, 8, 13 makes 8 of 4 alone: it is the only row to 13 that does so.
        Check.due("asFew(0, 13)", x.asFew(0, 13), 10);
        Check.due("asFew(1, 13)", x.asFew(1, 13), 9);
        Check.due("asFew(0, 12)", x.asFew(0, 12), 3);
        Check.due("asFew(1, 12)", x.asFew(1, 12), 3);
    }

    private static void differencesAreAboveNothing() {
        Check.sentence(3, "2 LESS: it is their sum, or the greater less the other one (above 0); "
            + "numbers need not rise.");
        SumChains x = new SumChains();
        // By taking away 7 comes of 8 and 1, and by 1, 2, 4, 3, 7 as well.
        Check.due("asFew(2, 7)", x.asFew(2, 7), 7);
        Check.due("asFew(0, 7)", x.asFew(0, 7), 5);
        Check.due("asFew(2, 4)", x.asFew(2, 4), 1);
        Check.row("first(2, 7, i)", i -> x.first(2, 7, i), 1, 2, 4, 8, 7);
        Check.row("first(2, 31, i)", i -> x.first(2, 31, i), 1, 2, 4, 8, 16, 32, 31);
    }

    private static void numbersUpToTwiceN() {
        Check.sentence(3, "1 to 40 for KIND 2 (no number above 2 n there)");
        SumChains x = new SumChains();
        // Numbers above n count; those above 2 n would change no answer: a row by these is never among the shortest.
        Check.due("asFew(2, 14)", x.asFew(2, 14), 18);
        Check.due("asFew(2, 15)", x.asFew(2, 15), 6);
        Check.due("asFew(2, 11)", x.asFew(2, 11), 24);
        Check.due("asFew(2, 22)", x.asFew(2, 22), 62);
        Check.due("asFew(2, 23)", x.asFew(2, 23), 15);
        Check.row("first(2, 29, i)", i -> x.first(2, 29, i), 1, 2, 4, 8, 16, 32, 33, 29);
    }

    private static void differencesStandToo() {
        Check.sentence(3, "3 TWINS: as 0, but the two are alike, or their difference is a number of the CHAIN, "
            + "too (ahead).");
        SumChains x = new SumChains();
        // 1, 2, 4, 5 is none: 3 does not stand there.
        Check.due("asFew(3, 5)", x.asFew(3, 5), 1);
        Check.row("first(3, 5, i)", i -> x.first(3, 5, i), 1, 2, 3, 5);
        Check.due("fewest(3, 17)", x.fewest(3, 17), 6);
        Check.due("fewest(0, 17)", x.fewest(0, 17), 5);
        Check.due("asFew(3, 16)", x.asFew(3, 16), 1);
    }

    private static void asFewTakesNumbers() {
        Check.sentence(3, "end with n by as many STEPS (n 1 to 80, KIND 2: 1 to 24)");
        int[] ofLast = {10, 10, 4, 5};
        for (int kind = 0; kind < 4; kind++) {
            SumChains x = new SumChains();
            int k = kind;
            Check.range("asFew(" + kind + ", n)", n -> x.asFew(k, n), 1, FEW_MOST[kind]);
            Check.due("asFew of 1", x.asFew(kind, 1), 1);
            Check.due("asFew of the last number of " + kind, x.asFew(kind, FEW_MOST[kind]), ofLast[kind]);
            Check.due("asFew of the last that FEWEST takes", x.asFew(kind, MOST[kind]), BAD);
        }
        Check.due("asFew(0, 25)", new SumChains().asFew(0, 25), 14);
    }

    private static void asFewTakesKinds() {
        Check.sentence(3, "`int asFew(int kind, int n)`: AS FEW. BAD.");
        SumChains x = new SumChains();
        Check.range("asFew(kind, 1)", kind -> x.asFew(kind, 1), 0, 3);
        Check.range("asFew(kind, 3)", kind -> x.asFew(kind, 3), 0, 3);
        Check.range("asFew(kind, 24)", kind -> x.asFew(kind, 24), 0, 3);
    }

    private static void asFewCountsRows() {
        Check.sentence(3, "AS FEW: how many CHAINS (as rows of numbers) end with n by as many STEPS");
        SumChains x = new SumChains();
        // 1, 2, 3, 4, 7 is one row, though its 4 comes of 2 twice and of 3 and 1.
        Check.due("asFew(0, 7)", x.asFew(0, 7), 5);
        Check.due("asFew(1, 7)", x.asFew(1, 7), 5);
        Check.due("asFew(3, 7)", x.asFew(3, 7), 2);
        Check.due("asFew(0, 8)", x.asFew(0, 8), 1);
        Check.due("asFew(0, 5)", x.asFew(0, 5), 2);
        Check.due("asFew(0, 7) again", x.asFew(0, 7), 5);
    }

    private static void firstBeginsWithOne() {
        Check.sentence(4, "`int first(int kind, int n, int i)`: The i-th number (0: 1) of THE FIRST.");
        for (int kind = 0; kind < 4; kind++) {
            SumChains x = new SumChains();
            Check.due("first(" + kind + ", 1, 0)", x.first(kind, 1, 0), 1);
            Check.due("first(" + kind + ", 2, 0)", x.first(kind, 2, 0), 1);
            Check.due("first(" + kind + ", 2, 1)", x.first(kind, 2, 1), 2);
            Check.due("first of the last number", x.first(kind, MOST[kind], 0), 1);
            int end = x.fewest(kind, MOST[kind]);
            Check.due("the end of that", x.first(kind, MOST[kind], end), MOST[kind]);
        }
    }

    private static void firstIsGreatestAhead() {
        Check.sentence(4, "THE FIRST of these: with the greatest second number, of these with the greatest third, ..");
        SumChains x = new SumChains();
        Check.row("first(0, 5, i)", i -> x.first(0, 5, i), 1, 2, 4, 5);
        Check.row("first(3, 5, i)", i -> x.first(3, 5, i), 1, 2, 3, 5);
        Check.row("first(0, 5, i) again", i -> x.first(0, 5, i), 1, 2, 4, 5);
        Check.row("first(0, 7, i)", i -> x.first(0, 7, i), 1, 2, 4, 6, 7);
        Check.row("first(0, 159, i)", i -> x.first(0, 159, i), 1, 2, 4, 8, 16, 32, 48, 52, 53, 106, 159);
        Check.row("first(1, 159, i)", i -> x.first(1, 159, i), 1, 2, 4, 8, 16, 32, 48, 52, 53, 106, 159);
        Check.row("first(2, 39, i)", i -> x.first(2, 39, i), 1, 2, 4, 8, 16, 32, 40, 39);
        Check.row("first(3, 159, i)", i -> x.first(3, 159, i), 1, 2, 3, 6, 9, 15, 24, 39, 48, 72, 87, 159);
    }

    private static void firstEnds() {
        Check.sentence(4, "NONE: not so many; BAD (as of FEWEST).");
        for (int kind = 0; kind < 4; kind++) {
            SumChains x = new SumChains();
            int k = kind;
            Check.row("first(" + kind + ", 1, i)", i -> x.first(k, 1, i), 1);
            Check.row("first(" + kind + ", 2, i)", i -> x.first(k, 2, i), 1, 2);
            Check.row("first(" + kind + ", 32, i)", i -> x.first(k, 32, i), 1, 2, 4, 8, 16, 32);
        }
    }

    private static void firstTakesWhatFewestTakes() {
        Check.sentence(4, "BAD (as of FEWEST).");
        for (int kind = 0; kind < 4; kind++) {
            SumChains x = new SumChains();
            int k = kind;
            Check.range("first(" + kind + ", n, 0)", n -> x.first(k, n, 0), 1, MOST[kind]);
            // BAD goes ahead of NONE.
            Check.due("first(" + kind + ", 0, 99)", x.first(kind, 0, 99), BAD);
            Check.due("first behind the last number", x.first(kind, MOST[kind] + 1, 99), BAD);
            Check.due("first(" + kind + ", 1, 99)", x.first(kind, 1, 99), NONE);
        }
        SumChains x = new SumChains();
        Check.range("first(kind, 1, 0)", kind -> x.first(kind, 1, 0), 0, 3);
        Check.range("first(kind, 40, 1)", kind -> x.first(kind, 40, 1), 0, 3);
        Check.due("first(4, 3, 99)", x.first(4, 3, 99), BAD);
        Check.due("first(-1, 3, 99)", x.first(-1, 3, 99), BAD);
    }

    private static void hardestTakesSteps() {
        Check.sentence(5, "HARDEST of KIND 0, 1 or 3 and k STEPS (0 to 9)");
        int[] ofNine = {71, 71, 0, 53};
        int[] kinds = {0, 1, 3};
        for (int kind : kinds) {
            SumChains x = new SumChains();
            Check.range("hardest(" + kind + ", k)", k -> x.hardest(kind, k), 0, 9);
            Check.due("hardest(" + kind + ", 0)", x.hardest(kind, 0), 1);
            Check.due("hardest(" + kind + ", 9)", x.hardest(kind, 9), ofNine[kind]);
        }
    }

    private static void hardestTakesKinds() {
        Check.sentence(5, "`int hardest(int kind, int k)`: HARDEST. BAD.");
        SumChains x = new SumChains();
        Check.range("hardest(kind, 3)", kind -> x.hardest(kind, 3), 0, 1);
        Check.range("hardest(kind, 3)", kind -> x.hardest(kind, 3), 3, 3);
        for (int k = -1; k <= 10; k++) {
            Check.due("hardest(2, " + k + ")", x.hardest(2, k), BAD);
            Check.due("hardest(4, " + k + ")", x.hardest(4, k), BAD);
            Check.due("hardest(-1, " + k + ")", x.hardest(-1, k), BAD);
        }
    }

    private static void hardestIsLeast() {
        Check.sentence(5, "the least n with FEWEST k.");
        int[][] due = {{1, 2, 3, 5, 7, 11, 19, 29, 47, 71}, {1, 2, 3, 5, 7, 11, 19, 29, 47, 71}, {},
            {1, 2, 3, 5, 7, 11, 17, 23, 37, 53}};
        for (int kind = 0; kind < 4; kind++) {
            for (int k = 0; k < due[kind].length; k++) {
                Check.due("hardest(" + kind + ", " + k + ")", new SumChains().hardest(kind, k), due[kind][k]);
            }
        }
    }
}
