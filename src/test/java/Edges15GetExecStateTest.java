/** Promise 15, getExecState: a test for each sentence with an edge. */
public final class Edges15GetExecStateTest {
    private static final Check check = new Check();

    public static void main(String[] args) {
        check.sentence("`getExecState()` answers the executor state and changes nothing.",
                Edges15GetExecStateTest::changesNothing);
        check.sentence("Whenever the status is not `PLAN_FOUND`, the executor state equals the initial state and the "
                + "position is 0.", Edges15GetExecStateTest::withoutPlan);
        check.end();
    }

    private static void changesNothing() {
        Samples.inEveryStatus().forEach((name, x) -> check.leavesAll("getExecState(), " + name, x, () -> {
            long due = name.equals("half executed") ? 2L : name.equals("executed") ? 14L : 1L;
            for (int time = 0; time < 3; time++) {
                check.due("getExecState(), " + name, x.getExecState(), due | Long.MIN_VALUE);
            }
        }));
        for (long state : Edges.states()) {
            HtnPlanner x = new HtnPlanner(1, 1);
            x.setSet(HtnPlanner.SET_INIT, 0, state);
            check.due("getExecState()", x.getExecState(), state);
        }
    }

    private static void atTheStart(String name, HtnPlanner x) {
        if (x.getInfo(HtnPlanner.INFO_STATUS) != HtnPlanner.PLAN_FOUND) {
            check.due("getExecState(), " + name, x.getExecState(), x.getSet(HtnPlanner.SET_INIT, 0));
            check.due("the position, " + name, x.getInfo(HtnPlanner.INFO_EXEC_POS), 0L);
        }
    }

    private static void withoutPlan() {
        atTheStart("fresh", new HtnPlanner(1, 1));
        Samples.inEveryStatus().forEach((name, x) -> {
            atTheStart(name, x);
            x.executeStep();
            atTheStart("a step on, " + name, x);
            x.addInitialTask(0);
            atTheStart("a task added, " + name, x);
            check.due("plan() finds, " + name, x.plan() == HtnPlanner.PLAN_FOUND, false);
            atTheStart("a search without a plan, " + name, x);
            x.executeStep();
            atTheStart("a step after it, " + name, x);
            x.setSet(HtnPlanner.SET_INIT, 0, -44L);
            atTheStart("another initial state, " + name, x);
        });
    }
}
