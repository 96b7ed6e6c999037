/** Promise 11: getPlanStep. */
public final class Promise11GetPlanStepTest {
    private static final Check check = new Check();

    public static void main(String[] args) {
        steps(new HtnPlanner(1, 1));
        steps(Samples.solvable());
        steps(Samples.halfExecuted(), 0, 2, 1);
        steps(Samples.failed());
        steps(Samples.outOfBudget());
        HtnPlanner x = Samples.halfExecuted();
        x.addMethod(16);
        steps(x);
        steps(fullPlan(), 1, 2, 3, 4, 1, 2, 3, 4, 1, 2, 3, 4, 1, 2, 3, 4,
                1, 2, 3, 4, 1, 2, 3, 4, 1, 2, 3, 4, 1, 2, 3, 4);
        foundThenFailed();
        check.end();
    }

    private static HtnPlanner fullPlan() {
        HtnPlanner x = new HtnPlanner(8, 1024);
        x.addMethod(16);
        for (int task = 1; task <= 4; task++) {
            x.addSubtask(0, task);
        }
        for (int i = 0; i < 8; i++) {
            x.addInitialTask(16);
        }
        x.plan();
        return x;
    }

    private static void foundThenFailed() {
        HtnPlanner x = Samples.halfExecuted();
        x.addInitialTask(0);
        x.plan();
        steps(x);
    }

    private static void steps(HtnPlanner x, int... due) {
        String before = Check.all(x);
        for (int i = 0; i < due.length; i++) {
            check.due("getPlanStep(" + i + ")", x.getPlanStep(i), due[i]);
        }
        int n = due.length;
        for (int i : new int[] {Integer.MIN_VALUE, -1, n, n + 1, 32, 33, Integer.MAX_VALUE}) {
            check.due("getPlanStep(" + i + ")", x.getPlanStep(i), -1L);
        }
        check.same("all after getPlanStep", Check.all(x), before);
    }
}
