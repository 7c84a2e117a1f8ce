/** Boundary cases of a new object, and of one that has been used often. */
final class ObjectBounds {
    private static final int CALLS = 512;

    private ObjectBounds() {
    }

    static void check() {
        nothingIsThereYet();
        theChainIsOneAlone();
        pricesAreOneEach();
        refusalsHaveTheirNumbers();
        calls512();
        objectsKeepApart();
    }

    private static void nothingIsThereYet() {
        Check.sentence(1, "`SumChains()`: No GOALS, an empty TEXT.");
        Check.due("count(0)", new SumChains().count(0), 0);
        Check.due("noGoals()", new SumChains().noGoals(), 0);
        Check.due("together()", new SumChains().together(), 0);
        Check.due("the first goal", new SumChains().goal(2), 1);
        Check.due("count(1)", new SumChains().count(1), 0);
        Check.due("wipe()", new SumChains().wipe(), 0);
        Check.due("the first byte", new SumChains().write(1, '1'), 1);
        for (int kind = 0; kind < 4; kind++) {
            Check.due("fault(" + kind + ")", new SumChains().fault(kind), 0);
            Check.due("take(" + kind + ")", new SumChains().take(kind), SumChains.NO);
        }
    }

    private static void theChainIsOneAlone() {
        Check.sentence(1, "THE CHAIN (1 alone at first)");
        SumChains x = new SumChains();
        Check.row("chain", x::chain, 1);
        Check.row("uses", x::uses, 0);
        Check.due("drawers()", x.drawers(), 1);
        Check.due("power(1000000, 999999)", x.power(1000000, 999999), 1);
        Check.due("count(2)", x.count(2), 0);
        Check.due("count(3)", x.count(3), 0);
    }

    private static void pricesAreOneEach() {
        Check.sentence(1, "PRICES: DOUBLING (a number twice) 1 to 4, another SUM 1 to 4 (1 each at first).");
        Check.due("price of a doubling", new SumChains().price(0, 4), 1);
        Check.due("price of a sum", new SumChains().price(1, 4), 1);
        Check.due("cheapest(2)", new SumChains().cheapest(2), 1);
        Check.due("cheapest(3)", new SumChains().cheapest(3), 2);
    }

    private static void refusalsHaveTheirNumbers() {
        Check.sentence(1, "public static final int BAD = -1, NO = -2, FULL = -3, NONE = -4;");
        Check.due("BAD", new SumChains().count(5), -1);
        Check.due("NO", new SumChains().take(0), -2);
        SumChains x = new SumChains();
        for (int n = 2; n <= 5; n++) {
            x.goal(n);
        }
        Check.due("FULL", x.goal(6), -3);
        Check.due("NONE", x.chain(1), -4);
    }

    private static void calls512() {
        Check.sentence(1, "An object is used for at most 512 calls after it has been made; "
            + "what later calls answer is free.");
        SumChains x = new SumChains();
        for (int call = 1; call <= CALLS; call++) {
            checkCall(x, call);
        }
        // What later calls answer is free, but they end and throw nothing.
        for (int call = CALLS + 1; call <= 2 * CALLS; call++) {
            Check.holds("call " + call + " ends", x.fewest(call % 4, 40) < 100 && x.write(8, call) < 200);
        }
    }

    /** Each kind of call comes by turns, the dearest of them with the dearest arguments. */
    private static void checkCall(SumChains x, int call) {
        int turn = call / 8;
        String name = "call " + call;
        switch (call % 8) {
            case 0:
                Check.due(name, x.first(0, 159, turn % 11), new SumChains().first(0, 159, turn % 11));
                break;
            case 1:
                Check.due(name, x.hardest(3, turn % 10), new SumChains().hardest(3, turn % 10));
                break;
            case 2:
                Check.due(name, x.goal(2 + turn % 59), turn % 8 < 4 ? turn % 8 + 1 : SumChains.FULL);
                break;
            case 3:
                Check.due(name, x.count(0), Math.min(4, turn % 8 + 1));
                break;
            case 4:
                Check.due(name, turn % 8 == 7 ? x.noGoals() : x.led(12, 11), turn % 8 == 7 ? 4 : 7);
                break;
            case 5:
                Check.due(name, x.write(8, turn), turn % 16 < 15 ? 8 * (turn % 16 + 1) : SumChains.FULL);
                break;
            case 6:
                Check.due(name, turn % 16 == 15 ? x.wipe() : x.fault(2), turn % 16 == 15 ? 120 : 0);
                break;
            default:
                Check.due(name, x.step(3, 1000, 0, turn % 13), new SumChains().step(3, 1000, 0, turn % 13));
                break;
        }
    }

    private static void objectsKeepApart() {
        Check.sentence(1, "`SumChains()`:");
        SumChains one = Texts.taken(0, "1,2,3");
        one.goal(7);
        one.price(0, 4);
        SumChains other = new SumChains();
        Check.due("goals of another object", other.count(0), 0);
        Check.due("bytes of another object", other.count(1), 0);
        Check.due("steps of another object", other.count(2), 0);
        Check.due("price in another object", other.price(0, 1), 1);
        Check.due("steps of the first object", one.count(2), 2);
        Check.due("price in the first object", one.price(0, 1), 4);
    }
}
