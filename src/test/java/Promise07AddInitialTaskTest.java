/** Promise 7: addInitialTask. */
public final class Promise07AddInitialTaskTest {
    private static final Check check = new Check();

    public static void main(String[] args) {
        everyTaskIsTaken();
        upToTheLast();
        refusals();
        check.end();
    }

    private static void everyTaskIsTaken() {
        for (int task = 0; task <= 31; task++) {
            HtnPlanner x = Samples.halfExecuted();
            String call = "addInitialTask(" + task + ")";
            String domain = Check.domain(x);
            check.due(call, x.addInitialTask(task), true);
            check.discarded(call, x);
            check.same("the domain after " + call, Check.domain(x),
                    domain.replace(" tasks 2:16,1,-1,", " tasks 3:16,1," + task + ","));
        }
    }

    private static void upToTheLast() {
        HtnPlanner x = new HtnPlanner(1, 100);
        int[] tasks = {7, 7, 0, 15, 0, 3, 3, 9};
        for (int i = 0; i < 8; i++) {
            check.due("addInitialTask(" + tasks[i] + ")", x.addInitialTask(tasks[i]), true);
            check.due("the initial count", x.getInfo(HtnPlanner.INFO_INITIAL_COUNT), i + 1);
        }
        x.plan();
        x.executeStep();
        refused(x, 0);
        refused(x, 31);
        refused(x, 32);
        check.same("the tasks", Check.initialTasks(x), " tasks 8:7,7,0,15,0,3,3,9,");
    }

    private static void refusals() {
        for (int task : new int[] {Integer.MIN_VALUE, -1, 32, 33, Integer.MAX_VALUE}) {
            refused(Samples.halfExecuted(), task);
            refused(new HtnPlanner(1, 1), task);
        }
    }

    private static void refused(HtnPlanner x, int task) {
        String call = "addInitialTask(" + task + ")";
        String before = Check.all(x);
        check.due(call, x.addInitialTask(task), false);
        check.same("all after the refused " + call, Check.all(x), before);
    }
}
