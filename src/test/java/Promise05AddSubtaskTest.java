/** Promise 5: addSubtask. */
public final class Promise05AddSubtaskTest {
    private static final Check check = new Check();

    public static void main(String[] args) {
        everyTaskIsTaken();
        everyMethodHasItsOwnList();
        repeatsAndOwnTask();
        refusals();
        check.end();
    }

    private static void everyTaskIsTaken() {
        for (int task = 0; task <= 31; task++) {
            HtnPlanner x = Samples.halfExecuted();
            String call = "addSubtask(1, " + task + ")";
            String domain = Check.domain(x);
            check.due(call, x.addSubtask(1, task), true);
            check.discarded(call, x);
            check.same("the domain after " + call, Check.domain(x),
                    domain.replace("1:0,0,16,0,17,-1,-1,", "1:0,0,16,0,17," + task + ",-1,"));
        }
    }

    private static void everyMethodHasItsOwnList() {
        HtnPlanner x = new HtnPlanner(1, 1);
        for (int m = 0; m < 32; m++) {
            x.addMethod(16);
        }
        for (int k = 0; k < 4; k++) {
            for (int m = 0; m < 32; m++) {
                check.due("addSubtask(" + m + ", ..)", x.addSubtask(m, (m + 9 * k) % 32), true);
            }
        }
        for (int m = 0; m < 32; m++) {
            for (int k = 0; k < 4; k++) {
                check.due("getMethodEntry(" + m + ", " + (k + 1) + ")",
                        x.getMethodEntry(m, k + 1), (m + 9 * k) % 32);
            }
            check.due("a fifth subtask of " + m, x.addSubtask(m, 1), false);
        }
    }

    private static void repeatsAndOwnTask() {
        HtnPlanner x = new HtnPlanner(1, 1);
        x.addMethod(22);
        int[] tasks = {22, 5, 5, 22};
        for (int task : tasks) {
            check.due("addSubtask(0, " + task + ")", x.addSubtask(0, task), true);
        }
        check.same("the method", Check.method(x, 0), "0,0,22,22,5,5,22,");
    }

    private static void refusals() {
        for (int m : new int[] {Integer.MIN_VALUE, -1, 3, 4, 31, 32, Integer.MAX_VALUE}) {
            refused(Samples.halfExecuted(), m, 0);
            refused(Samples.halfExecuted(), m, -1);
        }
        for (int task : new int[] {Integer.MIN_VALUE, -1, 32, 33, Integer.MAX_VALUE}) {
            for (int m = 0; m < 3; m++) {
                refused(Samples.halfExecuted(), m, task);
            }
        }
        refused(new HtnPlanner(1, 1), 0, 0);
        HtnPlanner full = Samples.solvable();
        full.addSubtask(1, 3);
        full.addSubtask(1, 3);
        full.plan();
        full.executeStep();
        refused(full, 1, 0);
        refused(full, 1, 31);
        refused(full, 1, 32);
    }

    private static void refused(HtnPlanner x, int m, int task) {
        String call = "addSubtask(" + m + ", " + task + ")";
        String before = Check.all(x);
        check.due(call, x.addSubtask(m, task), false);
        check.same("all after the refused " + call, Check.all(x), before);
    }
}
