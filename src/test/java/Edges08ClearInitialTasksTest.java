/** Promise 8, clearInitialTasks: a test for each sentence with an edge. */
public final class Edges08ClearInitialTasksTest {
    private static final Check check = new Check();

    public static void main(String[] args) {
        check.sentence("`clearInitialTasks()` empties the initial task list, then DISCARDs.",
                Edges08ClearInitialTasksTest::emptiesAndDiscards);
        check.sentence("It is never refused and DISCARDs even when the list was already empty.",
                Edges08ClearInitialTasksTest::emptyListDiscards);
        check.sentence("The operators, the methods and the initial state do not change.",
                Edges08ClearInitialTasksTest::restStays);
        check.end();
    }

    private static void cleared(String name, HtnPlanner x) {
        x.clearInitialTasks();
        check.same("the tasks when cleared, " + name, Check.initialTasks(x), " tasks 0:-1,-1,-1,-1,-1,-1,-1,-1,");
        check.discarded("clearInitialTasks(), " + name, x);
    }

    private static void emptiesAndDiscards() {
        Samples.inEveryStatus().forEach(Edges08ClearInitialTasksTest::cleared);
        HtnPlanner full = Samples.full();
        cleared("full", full);
        for (int i = 0; i < 8; i++) {
            check.due("addInitialTask when cleared", full.addInitialTask(31 - i), true);
        }
        check.same("the new tasks", Check.initialTasks(full), " tasks 8:31,30,29,28,27,26,25,24,");
    }

    private static void emptyListDiscards() {
        cleared("fresh", new HtnPlanner(1, 1));
        HtnPlanner x = new HtnPlanner(1, 1);
        x.setSet(HtnPlanner.SET_INIT, 0, -3L);
        check.due("plan() of no tasks", x.plan(), HtnPlanner.PLAN_FOUND);
        cleared("an empty plan", x);
        cleared("twice", x);
    }

    private static void restStays() {
        Samples.inEveryStatus().forEach((name, x) -> {
            String before = Check.domain(x);
            x.clearInitialTasks();
            check.same("the domain when cleared, " + name, Check.domain(x),
                    before.replace(" tasks 2:16,1,", " tasks 0:-1,-1,"));
        });
    }
}
