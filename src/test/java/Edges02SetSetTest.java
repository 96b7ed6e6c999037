/** Promise 2, setSet: a test for each sentence with an edge. */
public final class Edges02SetSetTest {
    private static final Check check = new Check();
    private static final long[] VALUES = {0L, 1L, -1L, 1L << 31, 1L << 32, -1L << 32,
            Long.MAX_VALUE, Long.MIN_VALUE, Long.MIN_VALUE + 1L};

    public static void main(String[] args) {
        check.sentence("1. `which` is in 0..6; otherwise refused.", Edges02SetSetTest::whichOutside);
        check.sentence("2. For `which` 0..3 [..] `index` must be in 0..15; otherwise refused.",
                Edges02SetSetTest::operatorOutside);
        check.sentence("3. For `which` 4..5 [..] `index` must be in 0..methodCount-1; otherwise refused.",
                Edges02SetSetTest::methodOutside);
        check.sentence("While there are no methods, these are always refused.",
                Edges02SetSetTest::withoutMethods);
        check.sentence("4. For `which` 6 (`SET_INIT`), `index` must be 0; otherwise refused.",
                Edges02SetSetTest::initOutside);
        check.sentence("A refused call answers `false` and changes nothing.",
                Edges02SetSetTest::refusedInEveryStatus);
        check.sentence("Otherwise the call stores `bits` in that set, replacing its previous value.",
                Edges02SetSetTest::replaces);
        check.sentence("Any `long` is accepted, including negative values.", Edges02SetSetTest::anyLong);
        check.sentence("Then it DISCARDs, even if the value is unchanged, and answers `true`.",
                Edges02SetSetTest::unchangedDiscards);
        check.sentence("After a successful `SET_INIT`, the executor state equals the new initial state.",
                Edges02SetSetTest::initMovesTheExecutor);
        check.sentence("No other fact set changes.", Edges02SetSetTest::noOtherSet);
        check.sentence("The methods' tasks and subtasks, methodCount, the initial task list, the depth limit and "
                + "the budget stay as they were.", Edges02SetSetTest::restStays);
        check.end();
    }

    private static void refused(HtnPlanner x, int which, int index) {
        String call = "setSet(" + which + ", " + index + ", -6)";
        check.leavesAll(call, x, () -> check.due(call, x.setSet(which, index, -6L), false));
    }

    private static void taken(HtnPlanner x, int which, int index) {
        String call = "setSet(" + which + ", " + index + ", -6)";
        check.due(call, x.setSet(which, index, -6L), true);
        check.due("getSet after " + call, x.getSet(which, index), -6L);
    }

    private static void whichOutside() {
        HtnPlanner x = Samples.full();
        for (int which : Edges.outside(0, 6)) {
            for (int index : new int[] {-1, 0, 1, 15, 16, 31, 32}) {
                refused(x, which, index);
            }
        }
        for (int which = 0; which <= 6; which++) {
            taken(x, which, 0);
        }
    }

    /** With 32 methods, so that 16..31 are wrong for operators alone. */
    private static void operatorOutside() {
        HtnPlanner x = Samples.full();
        for (int which = 0; which <= 3; which++) {
            for (int index : Edges.outside(0, 15)) {
                refused(x, which, index);
            }
        }
        for (int which = 0; which <= 3; which++) {
            taken(x, which, 0);
            taken(x, which, 15);
        }
    }

    private static void methodOutside() {
        HtnPlanner x = new HtnPlanner(4, 9);
        for (int count = 1; count <= 32; count++) {
            x.addMethod(16);
            x.plan();
            for (int index : Edges.outside(0, count - 1)) {
                refused(x, HtnPlanner.SET_M_PRE, index);
                refused(x, HtnPlanner.SET_M_NEG, index);
            }
            taken(x, HtnPlanner.SET_M_PRE, 0);
            taken(x, HtnPlanner.SET_M_PRE, count - 1);
            taken(x, HtnPlanner.SET_M_NEG, 0);
            taken(x, HtnPlanner.SET_M_NEG, count - 1);
        }
    }

    private static void withoutMethods() {
        HtnPlanner x = Samples.planner(4, 9, 3);
        x.plan();
        x.executeStep();
        for (int index = -2; index <= 33; index++) {
            refused(x, HtnPlanner.SET_M_PRE, index);
            refused(x, HtnPlanner.SET_M_NEG, index);
        }
        for (int index : Edges.outside(0, 31)) {
            refused(x, HtnPlanner.SET_M_PRE, index);
            refused(x, HtnPlanner.SET_M_NEG, index);
        }
        x.addMethod(16);
        check.due("PRE of the first method", x.getSet(HtnPlanner.SET_M_PRE, 0), 0L);
        check.due("NEG of the first method", x.getSet(HtnPlanner.SET_M_NEG, 0), 0L);
    }

    private static void initOutside() {
        HtnPlanner x = Samples.full();
        for (int index : Edges.outside(0, 0)) {
            refused(x, HtnPlanner.SET_INIT, index);
        }
        taken(x, HtnPlanner.SET_INIT, 0);
    }

    private static void refusedInEveryStatus() {
        for (HtnPlanner x : Samples.inEveryStatus().values()) {
            refused(x, -1, 0);
            refused(x, 7, 0);
            for (int which = 0; which <= 6; which++) {
                refused(x, which, -1);
                refused(x, which, which <= 3 ? 16 : which <= 5 ? 3 : 1);
            }
        }
    }

    private static void replaces() {
        HtnPlanner x = Samples.full();
        for (int which = 0; which <= 6; which++) {
            for (long bits : new long[] {-1L, 6L, 9L, 0L, Long.MIN_VALUE, 0L}) {
                x.setSet(which, 0, bits);
                check.due("getSet(" + which + ", 0)", x.getSet(which, 0), bits);
            }
        }
    }

    private static void anyLong() {
        HtnPlanner x = Samples.full();
        for (int which = 0; which <= 6; which++) {
            for (long[] values : new long[][] {VALUES, Edges.states()}) {
                for (long bits : values) {
                    String call = "setSet(" + which + ", 0, " + bits + ")";
                    check.due(call, x.setSet(which, 0, bits), true);
                    check.due("getSet after " + call, x.getSet(which, 0), bits);
                }
            }
        }
    }

    private static void unchangedDiscards() {
        for (int which = 0; which <= 6; which++) {
            for (HtnPlanner x : Samples.inEveryStatus().values()) {
                String call = "setSet(" + which + ", 0, unchanged)";
                check.due(call, x.setSet(which, 0, x.getSet(which, 0)), true);
                check.discarded(call, x);
            }
        }
    }

    private static void initMovesTheExecutor() {
        for (long bits : VALUES) {
            for (HtnPlanner x : Samples.inEveryStatus().values()) {
                x.setSet(HtnPlanner.SET_INIT, 0, bits);
                check.due("getExecState() after SET_INIT", x.getExecState(), bits);
                check.due("the initial state", x.getSet(HtnPlanner.SET_INIT, 0), bits);
            }
        }
    }

    private static int indices(int which) {
        return which <= 3 ? 16 : which <= 5 ? 32 : 1;
    }

    /** Every set has a value of its own, so that a write beside the right place is seen. */
    private static long value(int which, int index) {
        return -1000L * which - index - 1L;
    }

    private static HtnPlanner withEverySet() {
        HtnPlanner x = Samples.full();
        for (int which = 0; which <= 6; which++) {
            for (int index = 0; index < indices(which); index++) {
                x.setSet(which, index, value(which, index));
            }
        }
        return x;
    }

    private static void noOtherSet() {
        HtnPlanner x = withEverySet();
        for (int which = 0; which <= 6; which++) {
            for (int index = 0; index < indices(which); index++) {
                x.setSet(which, index, 77L);
                onlyOneIsOther(x, which, index);
                x.setSet(which, index, value(which, index));
            }
        }
    }

    private static void onlyOneIsOther(HtnPlanner x, int otherWhich, int otherIndex) {
        for (int which = 0; which <= 6; which++) {
            for (int index = 0; index < indices(which); index++) {
                boolean other = which == otherWhich && index == otherIndex;
                check.due("getSet(" + which + ", " + index + ") after a setSet of "
                        + otherWhich + ", " + otherIndex,
                        x.getSet(which, index), other ? 77L : value(which, index));
            }
        }
    }

    private static void restStays() {
        HtnPlanner x = Samples.full();
        String before = rest(x);
        for (int which = 0; which <= 6; which++) {
            for (int index = 0; index < indices(which); index++) {
                x.setSet(which, index, -5L);
                check.same("the rest after a setSet of " + which + ", " + index, rest(x), before);
            }
        }
    }

    private static String rest(HtnPlanner x) {
        StringBuilder text = new StringBuilder(Check.initialTasks(x));
        text.append(" methods ").append(x.getInfo(HtnPlanner.INFO_METHOD_COUNT)).append(':');
        for (int m = 0; m < 33; m++) {
            for (int k = 0; k <= 5; k++) {
                text.append(x.getMethodEntry(m, k)).append(',');
            }
        }
        text.append(" depth ").append(x.getInfo(HtnPlanner.INFO_DEPTH_LIMIT));
        return text.append(" budget ").append(x.getInfo(HtnPlanner.INFO_BUDGET)).toString();
    }
}
