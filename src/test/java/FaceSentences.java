import java.nio.file.Files;
import java.nio.file.Path;
import java.util.ArrayList;
import java.util.List;

/** What the class is, as the document begins, and its face as the source has it. */
final class FaceSentences {
    private static final String[] SECTIONS = {"// ---- fewest", "// ---- roads", "// ---- prices, texts"};
    private static final String[][] CALLS = {
        {"fewest", "asFew", "first", "hardest", "goal", "noGoals", "together", "led"},
        {"road", "step", "good"},
        {"price", "cheapest", "write", "wipe", "fault", "take", "chain", "uses", "drawers", "power", "count"}};

    private FaceSentences() {
    }

    static void check(String root) throws Exception {
        rowsFromOneOn();
        fewestAndFirst();
        chainsOfOtherKinds();
        severalByOneChain();
        fiveRoads();
        doublingHasItsPrice();
        textsAndWhatTheyDo();
        String source = Files.readString(Path.of(root, "src/main/java/SumChains.java"));
        theFaceIsTheDocuments(source);
        callsStandInTheirSections(source);
    }

    /** THE FIRST to n. */
    private static List<Integer> first(SumChains x, int kind, int n) {
        List<Integer> row = new ArrayList<>();
        for (int i = 0; i <= x.fewest(kind, n); i++) {
            row.add(x.first(kind, n, i));
        }
        return row;
    }

    private static void rowsFromOneOn() {
        Check.sentence(1, "Chains of sums: rows of numbers from 1 on, each the sum of two that were told ahead;");
        for (int n = 1; n <= 160; n++) {
            List<Integer> row = first(new SumChains(), 0, n);
            Check.holds("first of " + n + " is a chain: " + row, Rows.isChain(0, row));
            Check.due("the end of " + row, row.get(row.size() - 1), n);
        }
    }

    private static void fewestAndFirst() {
        Check.sentence(1, "the fewest steps to a number, how many chains have as few, the first of them;");
        SumChains x = new SumChains();
        // 1, 2, 3, 4, 7; 1, 2, 3, 5, 7; 1, 2, 3, 6, 7; 1, 2, 4, 5, 7; 1, 2, 4, 6, 7
        Check.due("fewest(0, 7)", x.fewest(0, 7), 4);
        Check.due("asFew(0, 7)", x.asFew(0, 7), 5);
        Check.holds("the first", first(x, 0, 7).equals(List.of(1, 2, 4, 6, 7)));
        // 1, 2, 3, 6, 9; 1, 2, 4, 5, 9; 1, 2, 4, 8, 9
        Check.due("fewest(0, 9)", x.fewest(0, 9), 4);
        Check.due("asFew(0, 9)", x.asFew(0, 9), 3);
        Check.holds("the first", first(x, 0, 9).equals(List.of(1, 2, 4, 8, 9)));
    }

    private static void chainsOfOtherKinds() {
        Check.sentence(1, "chains that go by the latest alone, that may take away, in which differences must "
            + "stand too;");
        for (int kind = 1; kind <= 3; kind++) {
            for (int n = 1; n <= (kind == 2 ? 40 : 160); n++) {
                List<Integer> row = first(new SumChains(), kind, n);
                Check.holds("first of " + n + " is a chain of " + kind + ": " + row, Rows.isChain(kind, row));
                Check.due("the end of " + row, row.get(row.size() - 1), n);
            }
        }
        SumChains x = new SumChains();
        Check.holds("by the latest", first(x, 1, 13).equals(List.of(1, 2, 4, 8, 12, 13)));
        Check.holds("by taking away", first(x, 2, 15).equals(List.of(1, 2, 4, 8, 16, 15)));
        Check.holds("with differences", first(x, 3, 7).equals(List.of(1, 2, 3, 5, 7)));
    }

    private static void severalByOneChain() {
        Check.sentence(1, "several numbers by one chain, pairs led at once;");
        SumChains x = new SumChains();
        x.goal(7);
        x.goal(10);
        // 1, 2, 3, 5, 7, 10, where 7 and 10 take four steps each
        Check.due("fewest(0, 7)", x.fewest(0, 7), 4);
        Check.due("fewest(0, 10)", x.fewest(0, 10), 4);
        Check.due("together()", x.together(), 5);
        // (1, 1), (2, 2), (3, 3), (6, 6), (7, 6)
        Check.due("led(7, 6)", x.led(7, 6), 5);
    }

    private static void fiveRoads() {
        Check.sentence(1, "roads by halves, by figures, by factors, by the tree of powers, by signs;");
        int[][] due = {{1, 2, 4, 5, 10, 11, 22, 23}, {1, 2, 3, 4, 5, 10, 20, 23}, {1, 2, 4, 8, 16, 20, 22, 23},
            {1, 2, 3, 5, 10, 13, 23}, {1, 2, 4, 3, 6, 12, 24, 23}};
        SumChains x = new SumChains();
        for (int road = 0; road <= 4; road++) {
            int r = road;
            Check.due("road(" + road + ", 23, 2)", x.road(road, 23, 2), due[road].length - 1);
            Check.row("step(" + road + ", 23, 2, i)", i -> x.step(r, 23, 2, i), due[road]);
        }
    }

    private static void doublingHasItsPrice() {
        Check.sentence(1, "the cheapest chain where doubling has a price of its own;");
        SumChains x = new SumChains();
        int[] due = {3, 5, 6, 7};
        // 1, 2, 4, 8 by three doublings; when they cost more, 1, 2, 3, 5, 8 by one
        for (int price = 1; price <= 4; price++) {
            x.price(0, price);
            Check.due("cheapest(8) by " + price, x.cheapest(8), due[price - 1]);
        }
        Check.due("the price of a sum", x.price(1, 1), 1);
    }

    private static void textsAndWhatTheyDo() {
        Check.sentence(1, "texts of chains with the first fault; how few drawers do; powers by a chain; "
            + "the hardest numbers.");
        SumChains x = Texts.written("1,2,3,5,10,21,44");
        Check.due("fault(0)", x.fault(0), 11);
        x.wipe();
        Texts.write(x, "1,2,3,5,10,20,23");
        Check.due("fault(0)", x.fault(0), SumChains.NONE);
        Check.due("take(0)", x.take(0), 6);
        Check.due("drawers()", x.drawers(), 2);
        Check.due("power(3, 1000)", x.power(3, 1000), 827);
        Check.due("hardest(0, 6)", x.hardest(0, 6), 19);
    }

    private static void theFaceIsTheDocuments(String source) {
        String face = "public final class SumChains { "
            + "public static final int BAD = -1, NO = -2, FULL = -3, NONE = -4; "
            + "public SumChains(); "
            + "public int fewest(int kind, int n); public int asFew(int kind, int n); "
            + "public int first(int kind, int n, int i); public int hardest(int kind, int k); public int goal(int n); "
            + "public int noGoals(); public int together(); public int led(int a, int b); "
            + "public int road(int road, int n, int w); public int step(int road, int n, int w, int i); "
            + "public int good(int road, int w, int m); public int price(int what, int v); "
            + "public int cheapest(int n); public int write(int n, long v); public int wipe(); "
            + "public int fault(int kind); public int take(int kind); public int chain(int i); public int uses(int i); "
            + "public int drawers(); public int power(int x, int m); public int count(int what); }";
        Check.sentence(1, face);
        int members = 0;
        for (String member : face.substring(face.indexOf('{') + 2, face.length() - 2).split("; ?")) {
            members++;
            String line = "\n    " + member + (member.contains("(") ? " {\n" : ";\n");
            int at = source.indexOf(line);
            Check.holds("'" + member + "' stands in the source once", at >= 0 && at == source.lastIndexOf(line));
        }
        Check.due("members that are not private", source.split("\n    public ", -1).length - 1, members);
        Check.holds("public final", source.contains("\npublic final class SumChains {\n"));
    }

    private static void callsStandInTheirSections(String source) {
        Check.sentence(1, "Ahead of the calls `fewest`, `asFew`, `first`, `hardest`, `goal`, `noGoals`, `together`, "
            + "`led` the interface says: ---- fewest. Ahead of the calls `road`, `step`, `good` the interface says: "
            + "---- roads. Ahead of the calls `price`, `cheapest`, `write`, `wipe`, `fault`, `take`, `chain`, `uses`, "
            + "`drawers`, `power`, `count` the interface says: ---- prices, texts.");
        for (int i = 0; i < SECTIONS.length; i++) {
            int from = source.indexOf(SECTIONS[i]);
            int end = i + 1 < SECTIONS.length ? source.indexOf(SECTIONS[i + 1]) : source.length();
            for (String call : CALLS[i]) {
                int at = source.indexOf("public int " + call + "(");
                Check.holds(call + " stands behind " + SECTIONS[i], from >= 0 && from < at && at < end);
            }
        }
    }
}
