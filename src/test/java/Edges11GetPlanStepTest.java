/** Promise 11, getPlanStep: a test for each sentence with an edge. */
public final class Edges11GetPlanStepTest {
    private static final Check check = new Check();

    public static void main(String[] args) {
        check.sentence("`getPlanStep(i)` answers the i-th operator of the plan (counting from 0) when i is in "
                + "0..planLength-1.", Edges11GetPlanStepTest::everyStep);
        check.sentence("Otherwise it answers -1;", Edges11GetPlanStepTest::outside);
        check.sentence("this is always the case when the status is not `PLAN_FOUND`.",
                Edges11GetPlanStepTest::withoutPlan);
        check.sentence("This call changes nothing.", Edges11GetPlanStepTest::changesNothing);
        check.end();
    }

    /** Plans of 0 to 8 operators, and the full plan. */
    private static void everyStep() {
        for (int length = 0; length <= 8; length++) {
            HtnPlanner x = ofLength(length);
            for (int i = 0; i < length; i++) {
                check.due("getPlanStep(" + i + ") of " + length, x.getPlanStep(i), 15 - i);
            }
        }
        HtnPlanner full = Samples.full();
        for (int i = 0; i < 32; i++) {
            check.due("getPlanStep(" + i + ") of 32", full.getPlanStep(i), i / 4 + i % 4);
        }
    }

    private static HtnPlanner ofLength(int length) {
        HtnPlanner x = new HtnPlanner(1, 8);
        for (int i = 0; i < length; i++) {
            x.addInitialTask(15 - i);
        }
        x.plan();
        return x;
    }

    private static void allMissing(String name, HtnPlanner x, int length) {
        for (int i : Edges.outside(0, length - 1)) {
            check.due("getPlanStep(" + i + "), " + name, x.getPlanStep(i), -1L);
        }
    }

    private static void outside() {
        for (int length = 0; length <= 8; length++) {
            allMissing("a plan of " + length, ofLength(length), length);
        }
        allMissing("a full plan", Samples.full(), 32);
        HtnPlanner shorter = Samples.full();
        shorter.clearInitialTasks();
        shorter.addInitialTask(3);
        shorter.plan();
        allMissing("a short plan after a full one", shorter, 1);
    }

    private static void withoutPlan() {
        allMissing("fresh", new HtnPlanner(1, 1), 0);
        Samples.inEveryStatus().forEach((name, x) -> {
            if (x.getInfo(HtnPlanner.INFO_STATUS) != HtnPlanner.PLAN_FOUND) {
                allMissing(name, x, 0);
            }
        });
        HtnPlanner dropped = Samples.full();
        dropped.addSubtask(0, 0);
        check.due("getPlanStep(31) after a refused call", dropped.getPlanStep(31), 10L);
        dropped.setSet(HtnPlanner.SET_OP_ADD, 15, 0L);
        allMissing("a full plan dropped", dropped, 0);
        HtnPlanner failed = Samples.full();
        Samples.forbid(failed, 10);
        Samples.forbid(failed, 14);
        check.due("plan() whose last task fails on every branch", failed.plan(), HtnPlanner.PLAN_FAILED);
        allMissing("failed with operators on the branch", failed, 0);
        allMissing("stopped with operators on the branch", Samples.outOfBudget(), 0);
    }

    private static void changesNothing() {
        Samples.inEveryStatus().forEach((name, x) -> check.leavesAll("getPlanStep, " + name, x, () -> {
            for (int i = -1; i <= 33; i++) {
                x.getPlanStep(i);
            }
        }));
    }
}
