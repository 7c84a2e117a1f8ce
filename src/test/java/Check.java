import java.io.IOException;
import java.nio.file.Files;
import java.nio.file.Path;
import java.util.BitSet;
import java.util.HashSet;
import java.util.Set;
import java.util.function.IntUnaryOperator;

/** Compares answers with those that are due, and ends a test with exit code 1 if one was wrong. */
final class Check {
    private static int asked = 0;
    private static int wrong = 0;

    private static String document = null;
    private static final BitSet told = new BitSet();
    private static String place = "";
    private static int askedAtPlace = 0;
    private static int wrongAtPlace = 0;
    private static final Set<String> places = new HashSet<>();
    private static final BitSet promises = new BitSet();

    private Check() {
    }

    static void due(String call, long got, long want) {
        asked++;
        if (got != want) {
            wrong++;
            wrongAtPlace++;
            if (wrongAtPlace <= (place.isEmpty() ? 50 : 5)) {
                System.out.println(place + call + " answered " + got + ", due is " + want);
            }
        }
    }

    static void holds(String claim, boolean holds) {
        due(claim, holds ? 1 : 0, 1);
    }

    static void end() {
        System.out.println(asked + " answers, " + wrong + " wrong");
        if (wrong != 0) {
            System.exit(1);
        }
    }

    /** Reads the document, so that a sentence that a test names is held against it. */
    static void readDocument(String[] args) throws IOException {
        Path path = Path.of(args.length > 0 ? args[0] : ".", "../shared/DOC.md");
        document = Files.isRegularFile(path) ? sentencesOf(Files.readString(path)) : null;
        if (document == null) {
            System.out.println("no document at " + path + ": the words that tests name are not looked up");
        }
    }

    /** The document in one line, without headings and the marks of blocks. */
    private static String sentencesOf(String text) {
        return oneLine(text.replaceAll("(?m)^(#|```).*$", "").replaceAll("======== [0-9]+", ""));
    }

    /** What is asked from here on is asked of this sentence; wrong answers are told with it. */
    static void sentence(int promise, String words) {
        endSentence();
        promises.set(promise);
        place = "promise " + promise + ", '" + words + "': ";
        wrongAtPlace = 0;
        holds("has one test alone", places.add(place));
        holds("stands in the document", tell(words));
        askedAtPlace = asked;
    }

    /** These words leave something free, so that no test can hold them. */
    static void leftFree(String words) {
        endSentence();
        holds("'" + words + "' stands in the document", tell(words));
        askedAtPlace = asked - 1;
    }

    /** Marks the words wherever they stand in the document. */
    private static boolean tell(String words) {
        if (document == null) {
            return true;
        }
        String line = oneLine(words);
        int from = document.indexOf(line);
        for (int at = from; at >= 0; at = document.indexOf(line, at + 1)) {
            told.set(at, at + line.length());
        }
        return from >= 0;
    }

    /** Each word of the document stands in a sentence that a test has named. */
    private static void allIsTold() {
        int length = document == null ? 0 : document.length();
        for (int from = told.nextClearBit(0); from < length; ) {
            int next = told.nextSetBit(from);
            int end = next < 0 ? length : next;
            String words = document.substring(from, end).trim();
            holds("'" + words + "' has a test", !words.matches("(?s).*[A-Za-z0-9].*"));
            from = told.nextClearBit(end);
        }
    }

    static void endSentences(int promisesInAll) {
        endSentence();
        for (int promise = 1; promise <= promisesInAll; promise++) {
            holds("a sentence of promise " + promise + " is tested", promises.get(promise));
        }
        allIsTold();
        System.out.print(places.size() + " sentences, ");
    }

    private static void endSentence() {
        holds("is asked for", places.isEmpty() || asked > askedAtPlace);
        place = "";
    }

    private static String oneLine(String text) {
        return text.replaceAll("\\s+", " ");
    }

    /** The first and the last number are taken, those beside them and far off are BAD. */
    static void range(String name, IntUnaryOperator call, int first, int last) {
        int[] good = {first, last};
        for (int number : good) {
            int got = call.applyAsInt(number);
            holds(name + " of " + number + " is not refused, but " + got, got >= 0);
        }
        int[] bad = {first - 1, last + 1, -first - 1, first - 256, last + 256, first - 65536, last + (1 << 17),
            Integer.MIN_VALUE, Integer.MIN_VALUE + first, Integer.MIN_VALUE + last, Integer.MAX_VALUE};
        for (int number : bad) {
            due(name + " of " + number, call.applyAsInt(number), SumChains.BAD);
        }
    }

    /** The numbers from 0 on are these; behind them is NONE, ahead of them BAD. */
    static void row(String name, IntUnaryOperator call, int... numbers) {
        for (int i = 0; i < numbers.length; i++) {
            due(name + " at " + i, call.applyAsInt(i), numbers[i]);
        }
        int[] behind = {numbers.length, numbers.length + 1, numbers.length + 64, numbers.length + 256, 1 << 16,
            Integer.MAX_VALUE};
        for (int i : behind) {
            due(name + " at " + i, call.applyAsInt(i), SumChains.NONE);
        }
        int[] ahead = {-1, -2, -256, -65536, Integer.MIN_VALUE};
        for (int i : ahead) {
            due(name + " at " + i, call.applyAsInt(i), SumChains.BAD);
        }
    }
}
