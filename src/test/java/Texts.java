import java.nio.charset.StandardCharsets;

/** Writes texts into objects. */
final class Texts {
    /** A text of 120 bytes, all that there is room for, with the greatest number at its end. */
    static final String FULL = "1,2,4,8,16,32,64,128,256,512,1024,2048,4096,8192,16384,32768,65536,98304,99328,99840,"
        + "99968,99984,99992,99996,99998,99999";

    private Texts() {
    }

    /** 1, 2, .. 43: as many numbers as a text has room for, in 119 bytes. */
    static String allTo43() {
        StringBuilder text = new StringBuilder("1");
        for (int number = 2; number <= 43; number++) {
            text.append(',').append(number);
        }
        return text.toString();
    }

    static SumChains written(String text) {
        SumChains x = new SumChains();
        write(x, text);
        return x;
    }

    static SumChains taken(int kind, String text) {
        SumChains x = written(text);
        Check.due("take(" + kind + ") of " + text, x.take(kind), text.chars().filter(sign -> sign == ',').count());
        return x;
    }

    /** Writes the text behind what stands there, by eight bytes at a time. */
    static void write(SumChains x, String text) {
        byte[] bytes = text.getBytes(StandardCharsets.ISO_8859_1);
        int before = x.count(1);
        for (int from = 0; from < bytes.length; from += 8) {
            int n = Math.min(8, bytes.length - from);
            long v = 0;
            for (int i = 0; i < n; i++) {
                v = v << 8 | bytes[from + i] & 255;
            }
            Check.due("write", x.write(n, v), before + from + n);
        }
    }
}
