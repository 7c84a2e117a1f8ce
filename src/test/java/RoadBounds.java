/** Boundary cases of promises 10 to 12. */
final class RoadBounds {
    private static final int BAD = SumChains.BAD, NONE = SumChains.NONE;
    private static final int[] ANY_WIDTH = {Integer.MIN_VALUE, -1, 0, 1, 2, 4, 5, Integer.MAX_VALUE};

    private RoadBounds() {
    }

    static void check() {
        roadsTakeNumbers();
        roadsTakeRoads();
        widthIsAskedOfFiguresAlone();
        roadsHaveTheirLength();
        whatIsThereIsNoNewStep();
        halvesBeginWithTheFirstFigure();
        figuresMakeSmallOnesFirst();
        noughtsAreNotAdded();
        figuresStayAndRise();
        factorsEndAtOne();
        factorsTakeTheLeastPrime();
        theTreeHasItsRoot();
        theTreeHasNoNumberTwice();
        theTreeGrowsByRows();
        signsAreNeverSideBySide();
        stepsEnd();
        stepsTakeWhatRoadsTake();
        goodTakesNumbers();
        goodTakesRoads();
    }

    private static int most(int road) {
        return road == 3 ? 1000 : 100000;
    }

    private static void roadsTakeNumbers() {
        Check.sentence(10, "ROADS to n (1 to 100000; ROAD 3: 1 to 1000)");
        int[] ofLast = {21, 22, 20, 12, 22};
        for (int road = 0; road <= 4; road++) {
            SumChains x = new SumChains();
            int r = road;
            Check.range("road(" + road + ", n, 2)", n -> x.road(r, n, 2), 1, most(road));
            Check.due("road to the last number", x.road(road, most(road), 2), ofLast[road]);
        }
        SumChains x = new SumChains();
        Check.due("road(1, 100000, 3)", x.road(1, 100000, 3), 23);
        Check.due("road(1, 100000, 4)", x.road(1, 100000, 4), 30);
        Check.due("road(0, 65535, 2)", x.road(0, 65535, 2), 30);
        Check.due("road(0, 65536, 2)", x.road(0, 65536, 2), 16);
        Check.due("road(4, 65535, 2)", x.road(4, 65535, 2), 17);
    }

    private static void roadsTakeRoads() {
        Check.sentence(10, "`int road(int road, int n, int w)`: LENGTH of a ROAD to n (w 2 to 4 is asked of ROAD 1 "
            + "alone). BAD.");
        SumChains x = new SumChains();
        Check.range("road(road, 15, 2)", road -> x.road(road, 15, 2), 0, 4);
        Check.range("road(road, 1000, 4)", road -> x.road(road, 1000, 4), 0, 4);
        Check.range("road(1, 15, w)", w -> x.road(1, 15, w), 2, 4);
        Check.range("road(1, 100000, w)", w -> x.road(1, 100000, w), 2, 4);
        Check.due("road(1, 0, 2)", x.road(1, 0, 2), BAD);
        Check.due("road(5, 0, 1)", x.road(5, 0, 1), BAD);
    }

    private static void widthIsAskedOfFiguresAlone() {
        Check.sentence(10, "w 2 to 4 is asked of ROAD 1 alone");
        int[] ofFifteen = {6, 0, 5, 5, 5};
        for (int w : ANY_WIDTH) {
            SumChains x = new SumChains();
            for (int road = 0; road <= 4; road++) {
                if (road != 1) {
                    Check.due("road(" + road + ", 15, " + w + ")", x.road(road, 15, w), ofFifteen[road]);
                    Check.due("step(" + road + ", 15, " + w + ", 1)", x.step(road, 15, w, 1), 2);
                }
            }
        }
    }

    private static void roadsHaveTheirLength() {
        Check.sentence(10, "LENGTH of a ROAD: its STEPS.");
        for (int road = 0; road <= 4; road++) {
            if (road != 1) {
                Check.due("road(" + road + ", 1, 0)", new SumChains().road(road, 1, 0), 0);
                Check.due("road(" + road + ", 2, 0)", new SumChains().road(road, 2, 0), 1);
            }
        }
        Check.due("road(1, 1, 2)", new SumChains().road(1, 1, 2), 2);
        Check.due("road(1, 1, 3)", new SumChains().road(1, 1, 3), 6);
        Check.due("road(1, 1, 4)", new SumChains().road(1, 1, 4), 14);
    }

    private static void whatIsThereIsNoNewStep() {
        Check.sentence(10, "a number that is there already is no new STEP");
        SumChains x = new SumChains();
        Check.row("step(1, 4, 2, i)", i -> x.step(1, 4, 2, i), 1, 2, 3, 4);
        Check.row("step(1, 8, 3, i)", i -> x.step(1, 8, 3, i), 1, 2, 3, 4, 5, 6, 7, 8);
        Check.row("step(1, 7, 2, i)", i -> x.step(1, 7, 2, i), 1, 2, 3, 4, 7);
        Check.due("road(1, 16, 4)", x.road(1, 16, 4), 15);
        Check.due("road(1, 17, 4)", x.road(1, 17, 4), 16);
    }

    private static void halvesBeginWithTheFirstFigure() {
        Check.sentence(11, "0 HALVES: from the first binary figure on: 1;");
        SumChains x = new SumChains();
        Check.row("step(0, 1, 0, i)", i -> x.step(0, 1, 0, i), 1);
        Check.row("step(0, 2, 0, i)", i -> x.step(0, 2, 0, i), 1, 2);
        Check.row("step(0, 3, 0, i)", i -> x.step(0, 3, 0, i), 1, 2, 3);
        Check.row("step(0, 4, 0, i)", i -> x.step(0, 4, 0, i), 1, 2, 4);
        Check.row("step(0, 100000, 0, i)", i -> x.step(0, 100000, 0, i), 1, 2, 3, 6, 12, 24, 48, 96, 97, 194, 195, 390,
            780, 781, 1562, 3124, 3125, 6250, 12500, 25000, 50000, 100000);
    }

    private static void figuresMakeSmallOnesFirst() {
        Check.sentence(11, "1 FIGURES by w (2 to 4): 1, 2, .. 2 to the w less 1 are made first, "
            + "each 1 more than that ahead;");
        SumChains x = new SumChains();
        Check.row("step(1, 1, 2, i)", i -> x.step(1, 1, 2, i), 1, 2, 3);
        Check.row("step(1, 1, 3, i)", i -> x.step(1, 1, 3, i), 1, 2, 3, 4, 5, 6, 7);
        Check.row("step(1, 1, 4, i)", i -> x.step(1, 1, 4, i), 1, 2, 3, 4, 5, 6, 7, 8, 9, 10, 11, 12, 13, 14, 15);
        Check.row("step(1, 3, 2, i)", i -> x.step(1, 3, 2, i), 1, 2, 3);
        Check.row("step(1, 15, 4, i)", i -> x.step(1, 15, 4, i), 1, 2, 3, 4, 5, 6, 7, 8, 9, 10, 11, 12, 13, 14, 15);
        Check.range("step(1, 15, w, 0)", w -> x.step(1, 15, w, 0), 2, 4);
    }

    private static void noughtsAreNotAdded() {
        Check.sentence(11, "w times doubled, then the figure added (if it is not 0), beginning with the first figure.");
        SumChains x = new SumChains();
        Check.row("step(1, 16, 2, i)", i -> x.step(1, 16, 2, i), 1, 2, 3, 4, 8, 16);
        Check.row("step(1, 17, 2, i)", i -> x.step(1, 17, 2, i), 1, 2, 3, 4, 8, 16, 17);
        Check.row("step(1, 20, 2, i)", i -> x.step(1, 20, 2, i), 1, 2, 3, 4, 5, 10, 20);
        Check.row("step(1, 64, 3, i)", i -> x.step(1, 64, 3, i), 1, 2, 3, 4, 5, 6, 7, 8, 16, 32, 64);
        Check.row("step(1, 100000, 2, i)", i -> x.step(1, 100000, 2, i), 1, 2, 3, 4, 6, 12, 24, 48, 96, 97, 194, 388,
            390, 780, 1560, 1562, 3124, 6248, 6250, 12500, 25000, 50000, 100000);
    }

    private static void figuresStayAndRise() {
        Check.sentence(11, "What is not used in the end stays; numbers are told in rising order.");
        SumChains x = new SumChains();
        Check.row("step(1, 5, 2, i)", i -> x.step(1, 5, 2, i), 1, 2, 3, 4, 5);
        Check.row("step(1, 16, 2, i)", i -> x.step(1, 16, 2, i), 1, 2, 3, 4, 8, 16);
        Check.row("step(1, 9, 3, i)", i -> x.step(1, 9, 3, i), 1, 2, 3, 4, 5, 6, 7, 8, 9);
        Check.row("step(1, 100000, 3, i)", i -> x.step(1, 100000, 3, i), 1, 2, 3, 4, 5, 6, 7, 12, 24, 48, 96, 192, 195,
            390, 780, 1560, 1562, 3124, 6248, 12496, 12500, 25000, 50000, 100000);
    }

    private static void factorsEndAtOne() {
        Check.sentence(11, "2 FACTORS: the road to 1 is 1.");
        SumChains x = new SumChains();
        Check.row("step(2, 1, 0, i)", i -> x.step(2, 1, 0, i), 1);
        Check.row("step(2, 2, 0, i)", i -> x.step(2, 2, 0, i), 1, 2);
        Check.row("step(2, 3, 0, i)", i -> x.step(2, 3, 0, i), 1, 2, 3);
        Check.row("step(2, 4, 0, i)", i -> x.step(2, 4, 0, i), 1, 2, 4);
        Check.row("step(2, 9, 0, i)", i -> x.step(2, 9, 0, i), 1, 2, 3, 6, 9);
        Check.row("step(2, 25, 0, i)", i -> x.step(2, 25, 0, i), 1, 2, 4, 5, 10, 20, 25);
        Check.due("the last prime", x.step(2, 99991, 0, x.road(2, 99991, 0)), 99991);
        Check.due("the number ahead of it", x.step(2, 99991, 0, x.road(2, 99991, 0) - 1), 99990);
    }

    private static void factorsTakeTheLeastPrime() {
        Check.sentence(11, "To a prime n: that to n - 1, then n. To another n: with p its least prime:");
        SumChains x = new SumChains();
        Check.row("step(2, 6, 0, i)", i -> x.step(2, 6, 0, i), 1, 2, 4, 6);
        Check.row("step(2, 7, 0, i)", i -> x.step(2, 7, 0, i), 1, 2, 4, 6, 7);
        Check.row("step(2, 15, 0, i)", i -> x.step(2, 15, 0, i), 1, 2, 3, 6, 12, 15);
        Check.row("step(2, 49, 0, i)", i -> x.step(2, 49, 0, i), 1, 2, 4, 6, 7, 14, 28, 42, 49);
    }

    private static void theTreeHasItsRoot() {
        Check.sentence(11, "3 THE TREE: 1 is the root;");
        SumChains x = new SumChains();
        Check.row("step(3, 1, 0, i)", i -> x.step(3, 1, 0, i), 1);
        Check.row("step(3, 2, 0, i)", i -> x.step(3, 2, 0, i), 1, 2);
        Check.row("step(3, 3, 0, i)", i -> x.step(3, 3, 0, i), 1, 2, 3);
        Check.row("step(3, 4, 0, i)", i -> x.step(3, 4, 0, i), 1, 2, 4);
        Check.row("step(3, 6, 0, i)", i -> x.step(3, 6, 0, i), 1, 2, 3, 6);
        Check.row("step(3, 1000, 0, i)", i -> x.step(3, 1000, 0, i), 1, 2, 3, 5, 10, 15, 25, 50, 75, 125, 250, 500,
            1000);
        // This one stands in the row below that of 1000.
        Check.row("step(3, 999, 0, i)", i -> x.step(3, 999, 0, i), 1, 2, 3, 5, 7, 14, 28, 31, 62, 124, 248, 496,
            992, 999);
    }

    private static void theTreeHasNoNumberTwice() {
        Check.sentence(11, "it and that number, as far as the sum is not in THE TREE yet;");
        SumChains x = new SumChains();
        // 4 stands below 2 and 6 below 3 already, when 3 and 4 get theirs.
        Check.row("step(3, 5, 0, i)", i -> x.step(3, 5, 0, i), 1, 2, 3, 5);
        Check.row("step(3, 8, 0, i)", i -> x.step(3, 8, 0, i), 1, 2, 4, 8);
        Check.row("step(3, 7, 0, i)", i -> x.step(3, 7, 0, i), 1, 2, 3, 5, 7);
        Check.row("step(3, 9, 0, i)", i -> x.step(3, 9, 0, i), 1, 2, 3, 6, 9);
        Check.row("step(3, 12, 0, i)", i -> x.step(3, 12, 0, i), 1, 2, 3, 6, 12);
        Check.row("step(3, 15, 0, i)", i -> x.step(3, 15, 0, i), 1, 2, 3, 5, 10, 15);
    }

    private static void theTreeGrowsByRows() {
        Check.sentence(10, "row by row till n is there.");
        SumChains x = new SumChains();
        // The last rows: 1000 stands in the 12th below the root, 999 and 551, the least of these, in the 13th.
        Check.due("road(3, 1000, 0)", x.road(3, 1000, 0), 12);
        Check.due("road(3, 996, 0)", x.road(3, 996, 0), 12);
        Check.due("road(3, 999, 0)", x.road(3, 999, 0), 13);
        Check.due("road(3, 551, 0)", x.road(3, 551, 0), 13);
        Check.due("road(3, 512, 0)", x.road(3, 512, 0), 9);
    }

    private static void signsAreNeverSideBySide() {
        Check.sentence(11, "4 SIGNS: n by figures 1, 0, less 1, no two side by side other than 0 (the one way)");
        SumChains x = new SumChains();
        Check.row("step(4, 1, 0, i)", i -> x.step(4, 1, 0, i), 1);
        Check.row("step(4, 2, 0, i)", i -> x.step(4, 2, 0, i), 1, 2);
        Check.row("step(4, 3, 0, i)", i -> x.step(4, 3, 0, i), 1, 2, 4, 3);
        Check.row("step(4, 5, 0, i)", i -> x.step(4, 5, 0, i), 1, 2, 4, 5);
        Check.row("step(4, 11, 0, i)", i -> x.step(4, 11, 0, i), 1, 2, 4, 3, 6, 12, 11);
        Check.row("step(4, 65535, 0, i)", i -> x.step(4, 65535, 0, i), 1, 2, 4, 8, 16, 32, 64, 128, 256, 512, 1024,
            2048, 4096, 8192, 16384, 32768, 65536, 65535);
        Check.due("step(4, 98304, 0, 2)", x.step(4, 98304, 0, 2), 4);
        Check.due("step(4, 98304, 0, 3)", x.step(4, 98304, 0, 3), 3);
    }

    private static void stepsEnd() {
        Check.sentence(11, "The i-th number of a ROAD. NONE; BAD.");
        for (int road = 0; road <= 4; road++) {
            SumChains x = new SumChains();
            int r = road;
            int length = x.road(road, most(road), 2);
            Check.due("the last step of road " + road, x.step(road, most(road), 2, length), most(road));
            Check.due("behind it", x.step(road, most(road), 2, length + 1), NONE);
            Check.due("its start", x.step(road, most(road), 2, 0), 1);
            Check.due("ahead of it", x.step(road, most(road), 2, -1), BAD);
            // A longer road that was asked for ahead is not to be seen in a shorter one.
            Check.row("step(" + road + ", 2, 2, i)", i -> x.step(r, 2, 2, i), road == 1 ? new int[] {1, 2, 3}
                : new int[] {1, 2});
        }
    }

    private static void stepsTakeWhatRoadsTake() {
        Check.sentence(11, "`int step(int road, int n, int w, int i)`");
        for (int road = 0; road <= 4; road++) {
            SumChains x = new SumChains();
            int r = road;
            Check.range("step(" + road + ", n, 2, 0)", n -> x.step(r, n, 2, 0), 1, most(road));
            // BAD goes ahead of NONE.
            Check.due("step(" + road + ", 0, 2, 99)", x.step(road, 0, 2, 99), BAD);
            Check.due("step behind the last number", x.step(road, most(road) + 1, 2, 99), BAD);
            Check.due("step(" + road + ", 1, 2, 99)", x.step(road, 1, 2, 99), NONE);
        }
        SumChains x = new SumChains();
        Check.range("step(road, 1000, 2, 1)", road -> x.step(road, 1000, 2, 1), 0, 4);
        Check.range("step(1, 1000, w, 1)", w -> x.step(1, 1000, w, 1), 2, 4);
        Check.due("step(5, 15, 2, 99)", x.step(5, 15, 2, 99), BAD);
        Check.due("step(1, 15, 1, 99)", x.step(1, 15, 1, 99), BAD);
        Check.due("step(1, 15, 5, 99)", x.step(1, 15, 5, 99), BAD);
    }

    private static void goodTakesNumbers() {
        Check.sentence(12, "`int good(int road, int w, int m)`: How many n from 1 to m (1 to 100) have a ROAD "
            + "(0 to 3; w)");
        int[] ofOne = {1, 0, 1, 1};
        int[] ofHundred = {67, 33, 82, 99};
        for (int road = 0; road <= 3; road++) {
            SumChains x = new SumChains();
            int r = road;
            Check.range("good(" + road + ", 2, m)", m -> x.good(r, 2, m), 1, 100);
            Check.due("good(" + road + ", 2, 1)", x.good(road, 2, 1), ofOne[road]);
            Check.due("good(" + road + ", 2, 100)", x.good(road, 2, 100), ofHundred[road]);
        }
        // The last number counts, too: 3 is the first that FIGURES by 2 lead to well, 77 that the tree does not.
        SumChains x = new SumChains();
        Check.due("good(1, 2, 2)", x.good(1, 2, 2), 0);
        Check.due("good(1, 2, 3)", x.good(1, 2, 3), 1);
        Check.due("good(3, 2, 76)", x.good(3, 2, 76), 76);
        Check.due("good(3, 2, 77)", x.good(3, 2, 77), 76);
        Check.due("good(3, 2, 78)", x.good(3, 2, 78), 77);
    }

    private static void goodTakesRoads() {
        Check.sentence(12, "that is as short as FEWEST of KIND 0. BAD.");
        SumChains x = new SumChains();
        Check.range("good(road, 2, 15)", road -> x.good(road, 2, 15), 0, 3);
        Check.range("good(1, w, 15)", w -> x.good(1, w, 15), 2, 4);
        Check.due("good(4, 2, 1)", x.good(4, 2, 1), BAD);
        Check.due("good(1, 3, 100)", x.good(1, 3, 100), 0);
        Check.due("good(1, 4, 100)", x.good(1, 4, 100), 0);
        for (int w : ANY_WIDTH) {
            Check.due("good(0, " + w + ", 15)", x.good(0, w, 15), 14);
            Check.due("good(2, " + w + ", 15)", x.good(2, w, 15), 15);
            Check.due("good(3, " + w + ", 15)", x.good(3, w, 15), 15);
        }
    }
}
