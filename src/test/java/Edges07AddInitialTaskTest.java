/** Promise 7, addInitialTask: a test for each sentence with an edge. */
public final class Edges07AddInitialTaskTest {
    private static final Check check = new Check();

    public static void main(String[] args) {
        check.sentence("1. `task` is in 0..31; otherwise it answers `false`.",
                Edges07AddInitialTaskTest::taskOutside);
        check.sentence("2. The initial count is < `MAX_INITIAL`; otherwise it answers `false`.",
                Edges07AddInitialTaskTest::fullList);
        check.sentence("In both failing cases nothing changes.",
                Edges07AddInitialTaskTest::refusedInEveryStatus);
        check.sentence("Otherwise the call appends `task` at the end, DISCARDs and answers `true`.",
                Edges07AddInitialTaskTest::appendsAndDiscards);
        check.sentence("Repeated tasks are allowed.", Edges07AddInitialTaskTest::repeatedTasks);
        check.sentence("The operators, the methods and the initial state do not change.",
                Edges07AddInitialTaskTest::restStays);
        check.end();
    }

    private static void refused(HtnPlanner x, int task) {
        String call = "addInitialTask(" + task + ")";
        check.leavesAll(call, x, () -> check.due(call, x.addInitialTask(task), false));
    }

    private static void taskOutside() {
        HtnPlanner x = Samples.halfExecuted();
        for (int task : Edges.outside(0, 31)) {
            refused(x, task);
        }
        check.due("addInitialTask(0)", x.addInitialTask(0), true);
        check.due("addInitialTask(31)", x.addInitialTask(31), true);
    }

    private static void fullList() {
        HtnPlanner x = new HtnPlanner(1, 9);
        for (int i = 0; i < 8; i++) {
            check.due("task " + i + " of 8", x.addInitialTask(i), true);
        }
        x.plan();
        x.executeStep();
        for (int task = -1; task <= 32; task++) {
            refused(x, task);
        }
        x.clearInitialTasks();
        check.due("addInitialTask(31) when cleared", x.addInitialTask(31), true);
    }

    private static void refusedInEveryStatus() {
        for (HtnPlanner x : Samples.inEveryStatus().values()) {
            refused(x, -1);
            refused(x, 32);
            for (int i = 0; i < HtnPlanner.MAX_INITIAL; i++) {
                x.addInitialTask(9);
            }
            refused(x, 9);
            x.plan();
            x.executeStep();
            refused(x, 9);
        }
        refused(Samples.full(), 0);
    }

    private static void appendsAndDiscards() {
        Samples.inEveryStatus().forEach((name, x) -> {
            check.due("addInitialTask(31), " + name, x.addInitialTask(31), true);
            check.discarded("addInitialTask(31), " + name, x);
            x.plan();
            check.due("addInitialTask(0), " + name, x.addInitialTask(0), true);
            check.discarded("addInitialTask(0), " + name, x);
            check.same("the tasks, " + name, Check.initialTasks(x), " tasks 4:16,1,31,0,-1,-1,-1,-1,");
        });
    }

    private static void repeatedTasks() {
        for (int task = 0; task <= 31; task++) {
            HtnPlanner x = new HtnPlanner(1, 1);
            for (int i = 0; i < 8; i++) {
                check.due("addInitialTask(" + task + ")", x.addInitialTask(task), true);
            }
            check.same("the tasks", Check.initialTasks(x), " tasks 8:" + (task + ",").repeat(8));
        }
        HtnPlanner y = Samples.planner(1, 8, 5, 5, 5, 5, 5, 5, 5, 5);
        check.planned("one task eight times", y, HtnPlanner.PLAN_FOUND, 8, "5,".repeat(8), "");
    }

    private static void restStays() {
        Samples.inEveryStatus().forEach((name, x) -> {
            String before = Check.domain(x);
            x.addInitialTask(31);
            check.same("the domain after addInitialTask(31), " + name, Check.domain(x),
                    before.replace(" tasks 2:16,1,-1,", " tasks 3:16,1,31,"));
        });
    }
}
