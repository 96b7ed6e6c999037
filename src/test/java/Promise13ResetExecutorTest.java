/** Promise 13: resetExecutor. */
public final class Promise13ResetExecutorTest {
    private static final Check check = new Check();
    private static final long START = 1L | Long.MIN_VALUE;

    public static void main(String[] args) {
        for (int steps = 0; steps <= 3; steps++) {
            afterSteps(steps);
        }
        changesNothing("fresh", new HtnPlanner(1, 1));
        changesNothing("without a search", Samples.solvable());
        changesNothing("failed", Samples.failed());
        changesNothing("out of budget", Samples.outOfBudget());
        check.end();
    }

    private static void afterSteps(int steps) {
        HtnPlanner x = Samples.solvable();
        x.plan();
        String all = Check.all(x);
        for (int i = 0; i < steps; i++) {
            x.executeStep();
        }
        x.resetExecutor();
        check.due("the position after resetExecutor()", x.getInfo(HtnPlanner.INFO_EXEC_POS), 0L);
        check.due("getExecState() after resetExecutor()", x.getExecState(), START);
        check.same("all after " + steps + " steps and resetExecutor()", Check.all(x), all);
        check.due("the first step anew", x.executeStep(), 0L);
        check.due("the second step anew", x.executeStep(), 2L);
        check.due("the third step anew", x.executeStep(), 1L);
    }

    private static void changesNothing(String name, HtnPlanner x) {
        String all = Check.all(x);
        x.resetExecutor();
        check.same("all after resetExecutor(), " + name, Check.all(x), all);
    }
}
