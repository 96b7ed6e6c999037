/** Promise 12: getDecompMethod. */
public final class Promise12GetDecompMethodTest {
    private static final Check check = new Check();

    public static void main(String[] args) {
        methods(new HtnPlanner(1, 1));
        methods(Samples.solvable());
        methods(Samples.halfExecuted(), 1, 2);
        methods(Samples.failed());
        methods(Samples.outOfBudget());
        HtnPlanner x = Samples.halfExecuted();
        x.setSet(HtnPlanner.SET_INIT, 0, 0L);
        methods(x);
        methods(deepest(), 2, 2, 2, 2, 2, 2, 2, 2, 2, 2, 2, 2, 2, 2, 2, 3);
        foundThenFailed();
        check.end();
    }

    /** Sixteen methods on the branch, the greatest depth. */
    private static HtnPlanner deepest() {
        HtnPlanner x = new HtnPlanner(16, 1024);
        x.addMethod(20);
        x.addMethod(21);
        x.addMethod(16);
        x.addSubtask(2, 16);
        x.addMethod(16);
        x.addInitialTask(16);
        x.plan();
        return x;
    }

    private static void foundThenFailed() {
        HtnPlanner x = Samples.halfExecuted();
        x.addInitialTask(0);
        x.plan();
        methods(x);
    }

    private static void methods(HtnPlanner x, int... due) {
        String before = Check.all(x);
        for (int i = 0; i < due.length; i++) {
            check.due("getDecompMethod(" + i + ")", x.getDecompMethod(i), due[i]);
        }
        int n = due.length;
        for (int i : new int[] {Integer.MIN_VALUE, -1, n, n + 1, 16, 17, Integer.MAX_VALUE}) {
            check.due("getDecompMethod(" + i + ")", x.getDecompMethod(i), -1L);
        }
        check.same("all after getDecompMethod", Check.all(x), before);
    }
}
