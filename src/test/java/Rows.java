import java.util.List;

/** Whether rows are chains, by the words of the document as plain as can be. */
final class Rows {
    private Rows() {
    }

    static boolean isChain(int kind, List<Integer> row) {
        if (row.isEmpty() || row.get(0) != 1) {
            return false;
        }
        for (int i = 1; i < row.size(); i++) {
            if (!comes(kind, row.subList(0, i), row.get(i))) {
                return false;
            }
        }
        return true;
    }

    private static boolean comes(int kind, List<Integer> ahead, int number) {
        int latest = ahead.get(ahead.size() - 1);
        if (ahead.contains(number) || kind != 2 && number < latest) {
            return false;
        }
        for (int a : ahead) {
            for (int b : ahead) {
                boolean sum = a + b == number && lets(kind, ahead, a, b);
                boolean difference = kind == 2 && a - b == number && number > 0;
                if (sum || difference) {
                    return true;
                }
            }
        }
        return false;
    }

    private static boolean lets(int kind, List<Integer> ahead, int a, int b) {
        int latest = ahead.get(ahead.size() - 1);
        switch (kind) {
            case 1:
                return a == latest || b == latest;
            case 3:
                return a == b || ahead.contains(Math.abs(a - b));
            default:
                return true;
        }
    }
}
