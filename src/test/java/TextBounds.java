/** Boundary cases of promises 15 to 18. */
final class TextBounds {
    private static final int BAD = SumChains.BAD, NO = SumChains.NO, FULL = SumChains.FULL, NONE = SumChains.NONE;

    private TextBounds() {
    }

    static void check() {
        writeTakesBytes();
        theHighestComesFirst();
        aTextIsFull();
        fullWritesNoByte();
        wipeTellsHowLong();
        faultTakesKinds();
        emptyTextHasItsFault();
        numbersHaveTheirRange();
        noNoughtAhead();
        commasPart();
        firstByteIsToldOfNumbers();
        theEndWhereANumberIsWanted();
        theFirstFaultCounts();
        chainsBeginWithOne();
        chainsAreUnlike();
        chainsRise();
        stepsComeOfTwo();
        latestIsJustAhead();
        lessIsAboveNothing();
        twinsStandAhead();
        takeTakesKinds();
        takeWantsNoFault();
        takenStays();
    }

    private static void dueFaults(String text, int sums, int latest, int less, int twins) {
        int[] due = {sums, latest, less, twins};
        SumChains x = Texts.written(text);
        for (int kind = 0; kind < 4; kind++) {
            Check.due("fault(" + kind + ") of " + text, x.fault(kind), due[kind]);
            SumChains fresh = Texts.written(text);
            Check.holds("take(" + kind + ") of " + text, fresh.take(kind) == NO == (due[kind] != NONE));
        }
    }

    private static void dueFault(String text, int due) {
        dueFaults(text, due, due, due, due);
    }

    private static void writeTakesBytes() {
        Check.sentence(15, "`int write(int n, long v)`: n bytes (1 to 8) of v");
        Check.range("write(n, v)", n -> new SumChains().write(n, '1'), 1, 8);
        Check.due("write(1, v)", new SumChains().write(1, '1'), 1);
        Check.due("write(8, v)", new SumChains().write(8, '1'), 8);
        SumChains x = new SumChains();
        Check.due("write(0, v)", x.write(0, '1'), BAD);
        Check.due("write(9, v)", x.write(9, '1'), BAD);
        Check.due("count(1)", x.count(1), 0);
    }

    private static void theHighestComesFirst() {
        Check.sentence(15, "the highest first, come behind THE TEXT: how long it is.");
        SumChains x = new SumChains();
        Check.due("1", x.write(1, 0xffffffffffffff31L), 1);
        Check.due("fault of 1", x.fault(0), NONE);
        Check.due("1,2", x.write(2, 0x7f007f007f002c32L), 3);
        Check.due("fault of 1,2", x.fault(0), NONE);
        Check.due("1,2,4,8,16,", x.write(8, 0x2c342c382c31362cL), 11);
        Check.due("fault at its end", x.fault(0), 11);
        Check.due("1,2,4,8,16,32", x.write(2, 0x3332), 13);
        Check.due("take", x.take(0), 5);
        Check.row("chain", x::chain, 1, 2, 4, 8, 16, 32);
        Check.due("a byte above 127", x.write(1, 0xacL), 14);
        Check.due("its fault", x.fault(0), 13);
        Check.due("eight of them", Texts.written("1").write(8, -1L), 9);
        Check.due("eight of them", Texts.written("1").write(8, Long.MIN_VALUE), 9);
    }

    private static void aTextIsFull() {
        Check.sentence(15, "A TEXT of bytes (120 at most)");
        Check.due("bytes of the full text", Texts.FULL.length(), 120);
        SumChains x = Texts.written(Texts.FULL);
        Check.due("count(1)", x.count(1), 120);
        for (int n = 1; n <= 8; n++) {
            Check.due("write(" + n + ", v) behind it", x.write(n, '1'), FULL);
            SumChains y = Texts.written(Texts.FULL.substring(n));
            Check.due("write(" + n + ", v) to the end", y.write(n, '1'), 120);
            SumChains z = Texts.written(Texts.FULL.substring(n - 1));
            Check.due("write(" + n + ", v) over the end", z.write(n, '1'), FULL);
        }
        Check.due("fault of the full text", x.fault(0), NONE);
        Check.due("take of the full text", x.take(0), 25);
        Check.due("its last number", x.chain(25), 99999);
    }

    private static void fullWritesNoByte() {
        Check.sentence(15, "how long it is. BAD; FULL.");
        SumChains x = Texts.written(Texts.FULL.substring(0, 119));
        Check.due("write(2, v) at 119", x.write(2, 0x3939), FULL);
        Check.due("write(8, v) at 119", x.write(8, '9'), FULL);
        Check.due("write(0, v) at 119", x.write(0, '9'), BAD);
        Check.due("write(9, v) at 119", x.write(9, '9'), BAD);
        Check.due("count(1)", x.count(1), 119);
        Check.due("write(1, v) at 119", x.write(1, '9'), 120);
        Check.due("fault", x.fault(0), NONE);
        // BAD goes ahead of FULL.
        Check.due("write(0, v) at 120", x.write(0, '9'), BAD);
        Check.due("write(9, v) at 120", x.write(9, '9'), BAD);
        Check.due("write(-1, v) at 120", x.write(-1, '9'), BAD);
        Check.due("write(max, v) at 120", x.write(Integer.MAX_VALUE, '9'), BAD);
        Check.due("write(min, v) at 120", x.write(Integer.MIN_VALUE, '9'), BAD);
        Check.due("write(1, v) at 120", x.write(1, '9'), FULL);
        Check.due("take", x.take(0), 25);
    }

    private static void wipeTellsHowLong() {
        Check.sentence(16, "`int wipe()`: THE TEXT is empty: how long it was.");
        Check.due("wipe() of nothing", new SumChains().wipe(), 0);
        Check.due("wipe() of 1 byte", Texts.written("1").wipe(), 1);
        SumChains x = Texts.written(Texts.FULL);
        Check.due("wipe() of 120 bytes", x.wipe(), 120);
        Check.due("count(1)", x.count(1), 0);
        Check.due("wipe() again", x.wipe(), 0);
        Check.due("fault of the empty text", x.fault(0), 0);
        Check.due("take of the empty text", x.take(0), NO);
        // What stood there is not to be seen again.
        Check.due("write", x.write(1, '1'), 1);
        Check.due("fault of 1", x.fault(0), NONE);
        Check.due("take of 1", x.take(0), 0);
        Texts.write(x, Texts.FULL.substring(1));
        Check.due("take of 120 bytes", x.take(0), 25);
        // 3 stood where 7 comes now: 7 is 6 and 1, not 4 and 3.
        SumChains y = Texts.taken(2, "1,2,4,6,3");
        Check.due("take again", y.take(2), 4);
        Check.due("wipe()", y.wipe(), 9);
        Texts.write(y, "1,2,4,6,7");
        Check.due("fault of 1,2,4,6,7", y.fault(2), NONE);
        Check.due("take of 1,2,4,6,7", y.take(2), 4);
        Check.row("uses of 1,2,4,6,7", y::uses, 3, 3, 1, 1, 0);
    }

    private static void faultTakesKinds() {
        Check.sentence(17, "`int fault(int kind)`: FAULT by a KIND. NONE; BAD.");
        Check.range("fault(kind) of nothing", kind -> new SumChains().fault(kind), 0, 3);
        Check.range("fault(kind) of 2", kind -> Texts.written("2").fault(kind), 0, 3);
        SumChains x = Texts.written("1");
        for (int kind = 0; kind < 4; kind++) {
            Check.due("fault(" + kind + ") of 1", x.fault(kind), NONE);
        }
        Check.due("fault(4) of 1", x.fault(4), BAD);
        Check.due("fault(-1) of 1", x.fault(-1), BAD);
    }

    private static void emptyTextHasItsFault() {
        Check.sentence(17, "The empty TEXT: 0.");
        dueFault("", 0);
        SumChains x = Texts.written("1,2");
        x.wipe();
        for (int kind = 0; kind < 4; kind++) {
            Check.due("fault(" + kind + ")", x.fault(kind), 0);
        }
    }

    private static void numbersHaveTheirRange() {
        Check.sentence(17, "numbers (1 to 99999,");
        String to49999 = "1,2,3,6,12,24,48,96,97,194,195,390,780,781,1562,3124,6248,6249,12498,12499,24998,24999,"
            + "49998,49999";
        dueFaults(to49999 + ",99998,99999", NONE, NONE, NONE, 20);
        String to50000 = "1,2,3,6,12,24,48,96,97,194,195,390,780,781,1562,3124,3125,6250,12500,25000,50000";
        dueFaults(to50000 + ",100000", 81, 81, 81, 20);
        dueFaults("1,2,4,8,16,32,64,128,256,512,1024,2048,4096,8192,16384,32768,65536,131072", 67, 67, 67, 67);
        dueFault(Texts.FULL.substring(0, 67) + "98304", NONE);
        dueFault("1", NONE);
        dueFault("0", 0);
        dueFault("1,0", 2);
        dueFault("1,2,0", 4);
        dueFault("1,2,-1", 4);
        // These are 3 or 2, if figures run over.
        dueFault("1,2,4294967299", 4);
        dueFault("1,2,18446744073709551619", 4);
        dueFault("1,65538", 2);
        dueFault("1,258", 2);
    }

    private static void noNoughtAhead() {
        Check.sentence(17, "figures without 0 ahead) parted by , : a CHAIN of a KIND.");
        dueFault("01", 0);
        dueFault("00001", 0);
        dueFault("1,02", 2);
        dueFault("1,2,03", 4);
        dueFault("1,2,0003", 4);
        dueFault("1,2,000003", 4);
        // A 0 behind another figure stands.
        dueFaults("1,2,4,5,10", NONE, NONE, NONE, 6);
        dueFault("1,2,3,5,10", NONE);
        dueFault("1,2,3,5,10,20", NONE);
    }

    private static void commasPart() {
        Check.sentence(17, "FAULT: the place of the first byte that can't stand there:");
        // '/' and ':' stand beside the figures, '+' and '-' beside the comma; 128 more than a good byte is none.
        int[] wrong = {0, 1, 10, 13, 32, '+', '-', '.', '/', ':', ';', 'a', 127, 128, '1' + 128, ',' + 128, 255};
        for (int sign : wrong) {
            String wrongByte = String.valueOf((char) sign);
            dueFault(wrongByte, 0);
            dueFault(wrongByte + "1", 0);
            dueFault("1" + wrongByte, 1);
            dueFault("1" + wrongByte + "2", 1);
            dueFault("1," + wrongByte, 2);
            dueFault("1," + wrongByte + "2", 2);
            dueFault("1,2,3,6,1" + wrongByte, 8);
            dueFault("1,2,3,6,12" + wrongByte, 10);
        }
        dueFault(",", 0);
        dueFault(",1", 0);
        dueFault("1,,2", 2);
        dueFault("1,2,,3", 4);
        // The last byte of a full text, with a number ahead of it that does not come, and with one that does.
        dueFaults(Texts.FULL.substring(0, 119) + ";", 115, 115, 115, 73);
        dueFault(Texts.allTo43() + ";", 119);
    }

    private static void firstByteIsToldOfNumbers() {
        Check.sentence(17, "a number that is not as told, or does not come as KIND tells: its first byte;");
        dueFault("10", 0);
        dueFault("1,12", 2);
        dueFault("1,2,3,6,13", 8);
        dueFault("1,2,3,6,100000", 8);
        dueFault("1,2,3,6,012", 8);
        dueFault("1,2,3,6,13,26", 8);
        dueFault("1,2,3,6,123456789", 8);
    }

    private static void theEndWhereANumberIsWanted() {
        Check.sentence(17, "the end, where a number is wanted, how many bytes there are.");
        dueFault("1,", 2);
        dueFault("1,2,", 4);
        dueFault("1,2,3,6,12,", 11);
        // The comma is the last byte that there is room for.
        dueFault(Texts.allTo43() + ",", 120);
    }

    private static void theFirstFaultCounts() {
        Check.sentence(17, "the place of the first byte that can't stand there");
        dueFault("2,3", 0);
        dueFault("1,3,x", 2);
        dueFault("1,2,9;", 4);
        dueFault("1,2,3;9", 5);
        dueFault("1,2,3,x,", 6);
        dueFault("1,2,100000,0", 4);
        dueFault("x,1,2", 0);
    }

    private static void chainsBeginWithOne() {
        Check.sentence(17, "A CHAIN is a row of unlike whole numbers, the first one 1;");
        dueFault("1", NONE);
        dueFault("2", 0);
        dueFault("2,1", 0);
        dueFault("11", 0);
        dueFault("99999", 0);
    }

    private static void chainsAreUnlike() {
        Check.sentence(18, "A CHAIN is a row of unlike whole numbers");
        dueFault("1,1", 2);
        dueFault("1,2,1", 4);
        dueFault("1,2,2", 4);
        dueFault("1,2,4,2", 6);
        dueFaults("1,2,4,3,1", 6, 6, 8, 6);
        dueFaults("1,2,4,3,4", 6, 6, 8, 6);
        dueFaults("1,2,4,3,3", 6, 6, 8, 6);
    }

    private static void chainsRise() {
        Check.sentence(18, "0 SUMS: it is the sum of them; numbers rise.");
        dueFaults("1,2,4,3", 6, 6, NONE, 6);
        dueFaults("1,2,3,5,4", 8, 8, NONE, 8);
        dueFaults("1,2,4,8,7,14,13", 8, 8, NONE, 8);
        dueFault("1,2,3,4", NONE);
    }

    private static void stepsComeOfTwo() {
        Check.sentence(18, "each other one, a STEP, comes of two ahead of it (or one twice).");
        dueFault("1,2", NONE);
        dueFault("1,3", 2);
        dueFault("1,2,4", NONE);
        dueFault("1,2,5", 4);
        dueFault("1,2,4,8", NONE);
        dueFault("1,2,4,9", 6);
        dueFault("1,2,4,7", 6);
        dueFault("1,2,3,6,11", 8);
    }

    private static void latestIsJustAhead() {
        Check.sentence(18, "1 LATEST: as 0, but one of the two is the number just ahead of it.");
        dueFaults("1,2,4,5,8", NONE, 8, NONE, 6);
        dueFaults("1,2,3,4,6", NONE, NONE, NONE, NONE);
        dueFaults("1,2,3,5,6", NONE, NONE, NONE, NONE);
        dueFaults("1,2,3,5,9", 8, 8, 8, 8);
        dueFaults("1,2,3,6,7,12", NONE, 10, NONE, 8);
        dueFaults("1,2,3,6,7,14", NONE, NONE, NONE, 8);
    }

    private static void lessIsAboveNothing() {
        Check.sentence(18, "2 LESS: it is their sum, or the greater less the other one (above 0); "
            + "numbers need not rise.");
        dueFault("1,0", 2);
        dueFaults("1,2,4,8,7", 8, 8, NONE, 8);
        dueFaults("1,2,4,8,5", 8, 8, NONE, 8);
        dueFaults("1,2,4,8,16,11", 11, 11, 11, 11);
        dueFaults("1,2,4,8,16,15,31", 11, 11, NONE, 11);
        dueFaults("1,2,4,8,16,15,1", 11, 11, 14, 11);
        dueFaults("1,2,4,8,16,15,7", 11, 11, NONE, 11);
    }

    private static void twinsStandAhead() {
        Check.sentence(18, "3 TWINS: as 0, but the two are alike, or their difference is a number of the CHAIN, "
            + "too (ahead).");
        dueFaults("1,2,4,5", NONE, NONE, NONE, 6);
        dueFaults("1,2,3,4,5", NONE, NONE, NONE, NONE);
        dueFaults("1,2,4,6,7", NONE, NONE, NONE, 8);
        dueFaults("1,2,4,6,8,14", NONE, NONE, NONE, NONE);
        // 9 is 8 and 1 there, with 7 ahead; 7 and 2 are not let.
        dueFaults("1,2,3,4,7,8,9", NONE, NONE, NONE, NONE);
        dueFaults("1,2,3,4,7,9", NONE, NONE, NONE, 10);
    }

    private static void takeTakesKinds() {
        Check.sentence(18, "`int take(int kind)`: TAKEN by a KIND: STEPS of THE CHAIN. BAD; NO.");
        Check.range("take(kind) of 1,2,3", kind -> Texts.written("1,2,3").take(kind), 0, 3);
        // BAD goes ahead of NO.
        SumChains x = Texts.written("1,3");
        Check.due("take(4) of 1,3", x.take(4), BAD);
        Check.due("take(-1) of 1,3", x.take(-1), BAD);
        Check.due("take(0) of 1,3", x.take(0), NO);
        Check.due("take(4) of nothing", new SumChains().take(4), BAD);
        Check.due("take(3) of nothing", new SumChains().take(3), NO);
        for (int kind = 0; kind < 4; kind++) {
            Check.due("take of 1", Texts.written("1").take(kind), 0);
            Check.due("take of 1,2", Texts.written("1,2").take(kind), 1);
        }
    }

    private static void takeWantsNoFault() {
        Check.sentence(18, "TAKEN is a TEXT without FAULT: THE CHAIN");
        SumChains x = Texts.taken(2, "1,2,4,3");
        Texts.write(x, ",7,");
        Check.due("take with a comma at the end", x.take(2), NO);
        Check.row("chain", x::chain, 1, 2, 4, 3);
        Texts.write(x, "6");
        Check.due("take by KIND 0", x.take(0), NO);
        Check.row("chain", x::chain, 1, 2, 4, 3);
        Check.due("take by KIND 2", x.take(2), 5);
        Check.row("chain", x::chain, 1, 2, 4, 3, 7, 6);
        Check.due("wipe()", x.wipe(), 11);
        Check.due("take of nothing", x.take(2), NO);
        Check.due("count(2)", x.count(2), 5);
        Texts.write(x, "1");
        Check.due("take of 1", x.take(2), 0);
        Check.row("chain", x::chain, 1);
        Check.row("uses", x::uses, 0);
    }

    private static void takenStays() {
        Check.sentence(18, "STEPS of THE CHAIN.");
        SumChains x = Texts.taken(0, "1,2,3,4");
        Check.due("the text stays", x.count(1), 7);
        Check.due("take again", x.take(0), 3);
        Check.row("uses by sums", x::uses, 3, 3, 0, 0);
        Check.due("take by another kind", x.take(1), 3);
        Check.row("uses by the latest", x::uses, 4, 1, 1, 0);
        Check.due("write", x.write(1, ','), 8);
        Check.due("fault", x.fault(0), 8);
        Check.row("the chain stays", x::chain, 1, 2, 3, 4);
        Check.row("uses by the latest still", x::uses, 4, 1, 1, 0);
        Check.due("drawers", x.drawers(), 2);
        Check.due("wipe()", x.wipe(), 8);
        Check.row("the chain stays", x::chain, 1, 2, 3, 4);
    }
}
