/** Promise 8: clearInitialTasks. */
public final class Promise08ClearInitialTasksTest {
    private static final Check check = new Check();

    public static void main(String[] args) {
        HtnPlanner x = Samples.halfExecuted();
        String left = Check.domain(x).replace(" tasks 2:16,1,", " tasks 0:-1,-1,");
        cleared(x, left);
        cleared(x, left);
        clearsAndDiscardsWhenEmpty(left, x);
        fillsAnewFromTheStart();
        check.end();
    }

    private static void cleared(HtnPlanner x, String left) {
        x.clearInitialTasks();
        check.discarded("clearInitialTasks()", x);
        check.same("the domain after clearInitialTasks()", Check.domain(x), left);
    }

    private static void clearsAndDiscardsWhenEmpty(String left, HtnPlanner x) {
        check.due("plan() of no tasks", x.plan(), HtnPlanner.PLAN_FOUND);
        cleared(x, left);
    }

    private static void fillsAnewFromTheStart() {
        HtnPlanner x = new HtnPlanner(1, 100);
        for (int i = 0; i < 8; i++) {
            x.addInitialTask(i);
        }
        x.clearInitialTasks();
        for (int i = 0; i < 8; i++) {
            check.due("getInitialTask(" + i + ") when cleared", x.getInitialTask(i), -1L);
            check.due("addInitialTask after clearing", x.addInitialTask(8 + i), true);
        }
        check.same("the tasks", Check.initialTasks(x), " tasks 8:8,9,10,11,12,13,14,15,");
        check.due("plan()", x.plan(), HtnPlanner.PLAN_FOUND);
        check.same("the plan", Check.plan(x), "8,9,10,11,12,13,14,15,");
    }
}
