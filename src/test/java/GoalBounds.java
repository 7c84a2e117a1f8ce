import java.util.Arrays;

/** Boundary cases of promises 6 to 9. */
final class GoalBounds {
    private static final int BAD = SumChains.BAD, NO = SumChains.NO, FULL = SumChains.FULL;

    private GoalBounds() {
    }

    static void check() {
        goalTakesNumbers();
        goalsAreUnlike();
        goalsAreFourAtMost();
        firstRefusalGoesAhead();
        noGoalsTellsHowMany();
        togetherOfNone();
        togetherOfAll();
        ledTakesPairs();
        ledTakesNoEmptyPair();
        ledToTheTwo();
    }

    private static SumChains withGoals(int... goals) {
        SumChains x = new SumChains();
        for (int i = 0; i < goals.length; i++) {
            Check.due("goal(" + goals[i] + ")", x.goal(goals[i]), i + 1);
        }
        return x;
    }

    private static void goalTakesNumbers() {
        Check.sentence(6, "GOALS, 4 at most, unlike numbers 2 to 60");
        Check.range("goal(n)", n -> new SumChains().goal(n), 2, 60);
        SumChains x = new SumChains();
        int[] bad = {1, 0, 61};
        for (int n : bad) {
            Check.due("goal(" + n + ")", x.goal(n), BAD);
            Check.due("count(0)", x.count(0), 0);
        }
        Check.due("goal(2)", x.goal(2), 1);
        Check.due("goal(60)", x.goal(60), 2);
        Check.due("together()", x.together(), 7);
    }

    private static void goalsAreUnlike() {
        Check.sentence(6, "NO: it is one;");
        SumChains x = withGoals(30, 2, 60, 31);
        int[] goals = {2, 30, 31, 60};
        for (int n : goals) {
            Check.due("goal(" + n + ") again", x.goal(n), NO);
        }
        Check.due("count(0)", x.count(0), 4);
        x.noGoals();
        // What was one is none any more.
        Check.due("goal(30)", x.goal(30), 1);
        Check.due("goal(30) again", x.goal(30), NO);
        Check.due("goal(31)", x.goal(31), 2);
        Check.due("goal(2)", x.goal(2), 3);
        Check.due("count(0)", x.count(0), 3);
    }

    private static void goalsAreFourAtMost() {
        Check.sentence(6, "FULL: 4.");
        SumChains x = withGoals(2, 3, 4, 60);
        int together = x.together();
        for (int n = 5; n < 60; n++) {
            Check.due("goal(" + n + ")", x.goal(n), FULL);
        }
        Check.due("count(0)", x.count(0), 4);
        Check.due("together()", x.together(), together);
        Check.due("noGoals()", x.noGoals(), 4);
        Check.due("goal(5)", x.goal(5), 1);
        Check.due("three have room for one", withGoals(5, 4, 3).goal(2), 4);
    }

    private static void firstRefusalGoesAhead() {
        Check.sentence(6, "BAD; NO: it is one; FULL: 4.");
        SumChains x = withGoals(2, 10, 20, 60);
        int[] bad = {1, 0, -1, 61, Integer.MIN_VALUE, Integer.MAX_VALUE};
        for (int n : bad) {
            Check.due("goal(" + n + "), when full", x.goal(n), BAD);
        }
        Check.due("goal(60), when full", x.goal(60), NO);
        Check.due("goal(2), when full", x.goal(2), NO);
        Check.due("goal(59), when full", x.goal(59), FULL);
        Check.due("goal(3), when full", x.goal(3), FULL);
    }

    private static void noGoalsTellsHowMany() {
        Check.sentence(7, "`int noGoals()`: No GOALS: how many were.");
        int[] numbers = {60, 2, 59, 3};
        for (int many = 0; many <= 4; many++) {
            SumChains x = withGoals(Arrays.copyOf(numbers, many));
            Check.due("noGoals() of " + many, x.noGoals(), many);
            Check.due("count(0)", x.count(0), 0);
            Check.due("noGoals() again", x.noGoals(), 0);
            Check.due("together()", x.together(), 0);
            Check.due("goal(59)", x.goal(59), 1);
        }
    }

    private static void togetherOfNone() {
        Check.sentence(8, "TOGETHER: the fewest STEPS of a CHAIN of KIND 0 with all of them (none: 0).");
        Check.due("of none", new SumChains().together(), 0);
        Check.due("of 2", withGoals(2).together(), 1);
        Check.due("of 60", withGoals(60).together(), 7);
        Check.due("of 59", withGoals(59).together(), 8);
        Check.due("of 2 and 3", withGoals(3, 2).together(), 2);
        // Of KIND 0: 16 comes of 8 twice, with 9 just ahead of it, and 8 of 4 twice, with 5 ahead.
        Check.due("of 9 and 16", withGoals(16, 9).together(), 5);
        Check.due("of 4, 5, 8", withGoals(5, 8, 4).together(), 4);
    }

    private static void togetherOfAll() {
        Check.sentence(8, "`int together()`: TOGETHER.");
        Check.due("of 2, 3, 4, 5", withGoals(2, 3, 4, 5).together(), 4);
        Check.due("of 5, 4, 3, 2", withGoals(5, 4, 3, 2).together(), 4);
        Check.due("of 57 to 60", withGoals(57, 58, 59, 60).together(), 11);
        Check.due("of 60 to 57", withGoals(60, 59, 58, 57).together(), 11);
        Check.due("of 23, 29, 59, 60", withGoals(59, 23, 60, 29).together(), 11);
        SumChains x = withGoals(23, 29, 59);
        Check.due("of three", x.together(), 10);
        Check.due("goal(60)", x.goal(60), 4);
        Check.due("of four", x.together(), 11);
        // What is asked between does not change them.
        Check.due("led(12, 11)", x.led(12, 11), 7);
        Check.due("asFew(2, 23)", x.asFew(2, 23), 15);
        Check.due("of four again", x.together(), 11);
    }

    private static void ledTakesPairs() {
        Check.sentence(9, "PAIRS (a, b), 0 to 12 each, not both 0");
        SumChains x = new SumChains();
        Check.range("led(a, 1)", a -> x.led(a, 1), 0, 12);
        Check.range("led(1, b)", b -> x.led(1, b), 0, 12);
        Check.range("led(a, 12)", a -> x.led(a, 12), 0, 12);
        Check.range("led(12, b)", b -> x.led(12, b), 0, 12);
        Check.range("led(a, 0)", a -> x.led(a, 0), 1, 12);
        Check.range("led(0, b)", b -> x.led(0, b), 1, 12);
        Check.due("led(12, 12)", x.led(12, 12), 5);
        Check.due("led(12, 11)", x.led(12, 11), 7);
        Check.due("led(11, 12)", x.led(11, 12), 7);
    }

    private static void ledTakesNoEmptyPair() {
        Check.sentence(9, "`int led(int a, int b)`: LED. BAD.");
        SumChains x = new SumChains();
        Check.due("led(0, 0)", x.led(0, 0), BAD);
        // These are 0 together, too, or wrap round to it.
        Check.due("led(-1, 1)", x.led(-1, 1), BAD);
        Check.due("led(1, -1)", x.led(1, -1), BAD);
        Check.due("led(-12, 12)", x.led(-12, 12), BAD);
        Check.due("led(min, min)", x.led(Integer.MIN_VALUE, Integer.MIN_VALUE), BAD);
        Check.due("led(max, max)", x.led(Integer.MAX_VALUE, Integer.MAX_VALUE), BAD);
        Check.due("led(13, 13)", x.led(13, 13), BAD);
        Check.due("led(13, 0)", x.led(13, 0), BAD);
        Check.due("led(0, 13)", x.led(0, 13), BAD);
        Check.due("no goals come of pairs", x.count(0), 0);
    }

    private static void ledToTheTwo() {
        Check.sentence(9, "LED: the fewest STEPS to (a, b) (those two: 0).");
        SumChains x = new SumChains();
        Check.due("led(1, 0)", x.led(1, 0), 0);
        Check.due("led(0, 1)", x.led(0, 1), 0);
        Check.due("led(1, 1)", x.led(1, 1), 1);
        Check.due("led(2, 0)", x.led(2, 0), 1);
        Check.due("led(0, 2)", x.led(0, 2), 1);
        Check.due("led(2, 1)", x.led(2, 1), 2);
        Check.due("led(1, 2)", x.led(1, 2), 2);
        Check.due("led(12, 0)", x.led(12, 0), 4);
        Check.due("led(0, 12)", x.led(0, 12), 4);
        Check.due("led(12, 1)", x.led(12, 1), 5);
        Check.due("led(1, 12)", x.led(1, 12), 5);
        // Those that were asked for ahead are not led to any more.
        Check.due("led(11, 7)", x.led(11, 7), 6);
        Check.due("led(2, 0) again", x.led(2, 0), 1);
        Check.due("led(0, 1) again", x.led(0, 1), 0);
    }
}
