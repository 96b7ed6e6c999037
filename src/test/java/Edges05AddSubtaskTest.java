/** Promise 5, addSubtask: a test for each sentence with an edge. */
public final class Edges05AddSubtaskTest {
    private static final Check check = new Check();

    public static void main(String[] args) {
        check.sentence("1. `m` is in 0..methodCount-1; otherwise it answers `false`.",
                Edges05AddSubtaskTest::methodOutside);
        check.sentence("2. `task` is in 0..31; otherwise it answers `false`.", Edges05AddSubtaskTest::taskOutside);
        check.sentence("3. The list has fewer than `MAX_SUBTASKS` entries; otherwise it answers `false`.",
                Edges05AddSubtaskTest::fullList);
        check.sentence("In all failing cases nothing changes.", Edges05AddSubtaskTest::refusedInEveryStatus);
        check.sentence("Otherwise the call appends `task` at the end of the list, DISCARDs and answers `true`.",
                Edges05AddSubtaskTest::appendsAndDiscards);
        check.sentence("Any task 0..31 may be a subtask, including compound tasks, the method's own task, and tasks "
                + "already in the list.", Edges05AddSubtaskTest::anyTask);
        check.sentence("The method's task, PRE and NEG, all other methods, the operators, the initial task list and "
                + "the initial state do not change.", Edges05AddSubtaskTest::restStays);
        check.end();
    }

    private static void refused(HtnPlanner x, int m, int task) {
        String call = "addSubtask(" + m + ", " + task + ")";
        check.leavesAll(call, x, () -> check.due(call, x.addSubtask(m, task), false));
    }

    private static void methodOutside() {
        HtnPlanner x = new HtnPlanner(4, 9);
        for (int count = 0; count <= 32; count++) {
            x.plan();
            for (int m : Edges.outside(0, count - 1)) {
                refused(x, m, 0);
            }
            check.due("addMethod", x.addMethod(16), count < 32 ? count : -1);
            check.due("a first subtask of " + count, x.addSubtask(count, 3), count < 32);
        }
        refused(new HtnPlanner(1, 1), 0, 32);
    }

    private static void taskOutside() {
        HtnPlanner x = Samples.halfExecuted();
        for (int task : Edges.outside(0, 31)) {
            refused(x, 0, task);
            refused(x, 2, task);
        }
        check.due("addSubtask(0, 0)", x.addSubtask(0, 0), true);
        check.due("addSubtask(0, 31)", x.addSubtask(0, 31), true);
    }

    /** A full list takes nothing, and the lists beside it are no less empty for it. */
    private static void fullList() {
        HtnPlanner x = new HtnPlanner(4, 9);
        for (int m = 0; m < 32; m++) {
            x.addMethod(16);
        }
        for (int m = 31; m >= 0; m--) {
            for (int k = 0; k < 4; k++) {
                check.due("subtask " + k + " of " + m, x.addSubtask(m, k), true);
            }
            for (int task = 0; task <= 31; task++) {
                refused(x, m, task);
            }
            refused(x, m, -1);
            refused(x, m, 32);
        }
    }

    private static void refusedInEveryStatus() {
        for (HtnPlanner x : Samples.inEveryStatus().values()) {
            refused(x, -1, 0);
            refused(x, 3, 0);
            refused(x, 0, -1);
            refused(x, 0, 32);
            for (int i = 0; i < HtnPlanner.MAX_SUBTASKS; i++) {
                x.addSubtask(0, 5);
            }
            x.plan();
            x.executeStep();
            refused(x, 0, 5);
        }
        refused(Samples.full(), 31, 0);
    }

    private static void appendsAndDiscards() {
        for (HtnPlanner x : Samples.inEveryStatus().values()) {
            check.due("addSubtask(2, 31)", x.addSubtask(2, 31), true);
            check.discarded("addSubtask(2, 31)", x);
            x.plan();
            check.due("addSubtask(2, 0)", x.addSubtask(2, 0), true);
            check.discarded("addSubtask(2, 0)", x);
            x.plan();
            check.due("addSubtask(2, 16)", x.addSubtask(2, 16), true);
            check.discarded("addSubtask(2, 16)", x);
            check.same("method 2", Check.method(x, 2), "2,8,17,2,31,0,16,");
        }
    }

    private static void anyTask() {
        for (int own = 16; own <= 31; own++) {
            for (int task = 0; task <= 31; task++) {
                HtnPlanner x = new HtnPlanner(1, 1);
                x.addMethod(own);
                for (int k = 1; k <= 4; k++) {
                    check.due("addSubtask(0, " + task + ")", x.addSubtask(0, task), true);
                    check.due("getMethodEntry(0, " + k + ")", x.getMethodEntry(0, k), task);
                }
            }
        }
    }

    private static void restStays() {
        HtnPlanner x = Samples.solvable();
        for (int i = 0; i < HtnPlanner.MAX_METHODS; i++) {
            x.addMethod(20);
        }
        for (int m = 3; m < 32; m++) {
            x.setSet(HtnPlanner.SET_M_PRE, m, -m);
            x.setSet(HtnPlanner.SET_M_NEG, m, -100 - m);
        }
        for (int m = 3; m < 32; m++) {
            for (int task = 28; task <= 31; task++) {
                String list = Check.method(x, m);
                String before = Check.domain(x);
                x.addSubtask(m, task);
                String longer = list.replaceFirst(",-1,", "," + task + ",");
                check.same("the domain after addSubtask(" + m + ", " + task + ")", Check.domain(x),
                        before.replace(" " + m + ":" + list, " " + m + ":" + longer));
            }
        }
    }
}
