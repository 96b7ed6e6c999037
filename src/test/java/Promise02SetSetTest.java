/** Promise 2: setSet. */
public final class Promise02SetSetTest {
    private static final Check check = new Check();
    private static final long[] VALUES = {1L, 0L, -1L, Long.MIN_VALUE, Long.MAX_VALUE, 1L << 32};

    public static void main(String[] args) {
        everySetIsStoredAlone();
        everyMethodSetIsStoredAlone();
        sameValueDiscards();
        initMovesTheExecutor();
        refusals();
        methodIndexFollowsTheCount();
        check.end();
    }

    private static void everySetIsStoredAlone() {
        for (int which = 0; which <= 3; which++) {
            for (int index = 0; index < 16; index++) {
                for (long bits : VALUES) {
                    storedAlone(Samples.halfExecuted(), which, index, bits);
                }
            }
        }
        for (long bits : VALUES) {
            storedAlone(Samples.halfExecuted(), HtnPlanner.SET_INIT, 0, bits);
        }
    }

    private static void everyMethodSetIsStoredAlone() {
        HtnPlanner x = Samples.solvable();
        for (int i = 0; i < HtnPlanner.MAX_METHODS; i++) {
            x.addMethod(30);
        }
        for (int m = 0; m < 32; m++) {
            for (long bits : VALUES) {
                storedAlone(x, HtnPlanner.SET_M_PRE, m, bits);
                storedAlone(x, HtnPlanner.SET_M_NEG, m, bits);
            }
        }
    }

    /** The set reads back, and with its old value put back the domain is the old one. */
    private static void storedAlone(HtnPlanner x, int which, int index, long bits) {
        String call = "setSet(" + which + ", " + index + ", " + bits + ")";
        String before = Check.domain(x);
        long old = x.getSet(which, index);
        check.due(call, x.setSet(which, index, bits), true);
        check.discarded(call, x);
        check.due("getSet after " + call, x.getSet(which, index), bits);
        x.setSet(which, index, old);
        check.same("the domain after " + call + " and back", Check.domain(x), before);
    }

    private static void sameValueDiscards() {
        for (int which = 0; which <= 6; which++) {
            HtnPlanner x = Samples.halfExecuted();
            String before = Check.domain(x);
            String call = "setSet(" + which + ", 0, its own value)";
            check.due(call, x.setSet(which, 0, x.getSet(which, 0)), true);
            check.discarded(call, x);
            check.same("the domain after " + call, Check.domain(x), before);
        }
    }

    private static void initMovesTheExecutor() {
        HtnPlanner x = Samples.halfExecuted();
        x.setSet(HtnPlanner.SET_INIT, 0, -12345L);
        check.due("getExecState() after SET_INIT", x.getExecState(), -12345L);
    }

    private static void refusals() {
        int[] codes = {Integer.MIN_VALUE, -1, 7, 8, Integer.MAX_VALUE};
        for (int which : codes) {
            for (int index : new int[] {-1, 0, 1, 15}) {
                refused(which, index);
            }
        }
        for (int which = 0; which <= 3; which++) {
            for (int index : new int[] {Integer.MIN_VALUE, -1, 16, 17, 31, Integer.MAX_VALUE}) {
                refused(which, index);
            }
        }
        for (int which = 4; which <= 5; which++) {
            for (int index : new int[] {Integer.MIN_VALUE, -1, 3, 4, 31, 32, Integer.MAX_VALUE}) {
                refused(which, index);
            }
        }
        for (int index : new int[] {Integer.MIN_VALUE, -1, 1, 2, Integer.MAX_VALUE}) {
            refused(HtnPlanner.SET_INIT, index);
        }
    }

    private static void refused(int which, int index) {
        HtnPlanner x = Samples.halfExecuted();
        String call = "setSet(" + which + ", " + index + ", 99)";
        String before = Check.all(x);
        check.due(call, x.setSet(which, index, 99L), false);
        check.same("all after the refused " + call, Check.all(x), before);
    }

    private static void methodIndexFollowsTheCount() {
        HtnPlanner x = new HtnPlanner(1, 1);
        for (int m = 0; m < 32; m++) {
            check.due("setSet(4, " + m + ", 5) too early", x.setSet(4, m, 5L), false);
            check.due("setSet(5, " + m + ", 6) too early", x.setSet(5, m, 6L), false);
            x.addMethod(16);
            check.due("a new method's PRE", x.getSet(4, m), 0L);
            check.due("a new method's NEG", x.getSet(5, m), 0L);
            check.due("setSet(4, " + m + ", 5)", x.setSet(4, m, 5L), true);
            check.due("setSet(5, " + m + ", 6)", x.setSet(5, m, 6L), true);
        }
        check.due("setSet(4, 32, 5)", x.setSet(4, 32, 5L), false);
        check.due("setSet(5, 32, 6)", x.setSet(5, 32, 6L), false);
    }
}
