import java.util.ArrayList;
import java.util.List;

/** The chain that a text tells, or its first fault, by words of the document as plain as can be. */
final class PlainChain {
    final List<Integer> numbers = new ArrayList<>();
    final List<int[]> pairs = new ArrayList<>();
    final int kind;
    int fault = SumChains.NONE;

    PlainChain(String text, int kind) {
        this.kind = kind;
        int place = 0;
        for (String part : text.split(",", -1)) {
            String figures = part.replaceAll("(?s)^([0-9]*).*$", "$1");
            if (!figures.matches("[1-9][0-9]{0,4}") || !comes(Integer.parseInt(figures))) {
                fault = place;
                return;
            }
            if (figures.length() < part.length()) {
                fault = place + figures.length();
                return;
            }
            place += part.length() + 1;
        }
    }

    private boolean comes(int number) {
        if (numbers.isEmpty() || numbers.contains(number)) {
            boolean start = numbers.isEmpty() && number == 1;
            if (start) {
                numbers.add(1);
                pairs.add(null);
            }
            return start;
        }
        int last = numbers.get(numbers.size() - 1);
        int[] best = null;
        for (int a : numbers) {
            for (int b : numbers) {
                boolean sum = a <= b && a + b == number && (kind == 2 || number > last)
                    && (kind != 1 || a == last || b == last)
                    && (kind != 3 || a == b || numbers.contains(b - a));
                boolean difference = kind == 2 && b - a == number;
                if (sum && (best == null || best[2] == 0 || a > best[0])) {
                    best = new int[] {a, b, 1};
                } else if (!sum && difference && (best == null || best[2] == 0 && b < best[1])) {
                    best = new int[] {a, b, 0};
                }
            }
        }
        if (best != null) {
            numbers.add(number);
            pairs.add(best);
        }
        return best != null;
    }

    int uses(int i) {
        int uses = 0;
        for (int step = 1; step < numbers.size(); step++) {
            uses += pairs.get(step)[0] == numbers.get(i) ? 1 : 0;
            uses += pairs.get(step)[1] == numbers.get(i) ? 1 : 0;
        }
        return uses;
    }

    int doublings() {
        int doublings = 0;
        for (int step = 1; step < numbers.size(); step++) {
            doublings += pairs.get(step)[0] == pairs.get(step)[1] ? 1 : 0;
        }
        return doublings;
    }

    int drawers() {
        int most = 1;
        for (int step = 1; step < numbers.size(); step++) {
            int now = 0;
            int later = 1;
            for (int i = 0; i < step; i++) {
                now += wanted(i, step) ? 1 : 0;
                later += wanted(i, step + 1) ? 1 : 0;
            }
            most = Math.max(most, Math.max(now, later));
        }
        return most;
    }

    private boolean wanted(int i, int since) {
        for (int step = since; step < numbers.size(); step++) {
            if (pairs.get(step)[0] == numbers.get(i) || pairs.get(step)[1] == numbers.get(i)) {
                return true;
            }
        }
        return false;
    }
}
