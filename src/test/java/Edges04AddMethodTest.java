/** Promise 4, addMethod: a test for each sentence with an edge. */
public final class Edges04AddMethodTest {
    private static final Check check = new Check();

    public static void main(String[] args) {
        check.sentence("1. `task` is in 16..31; otherwise it answers -1.", Edges04AddMethodTest::taskOutside);
        check.sentence("2. methodCount < `MAX_METHODS`; otherwise it answers -1.", Edges04AddMethodTest::full);
        check.sentence("In both failing cases nothing changes.", Edges04AddMethodTest::refusedInEveryStatus);
        check.sentence("Otherwise the new method gets index methodCount, PRE = NEG = 0 and no subtasks.",
                Edges04AddMethodTest::newMethodIsEmpty);
        check.sentence("methodCount grows by 1.", Edges04AddMethodTest::countGrowsByOne);
        check.sentence("The call DISCARDs and answers the new index.", Edges04AddMethodTest::discards);
        check.sentence("Indices are given out in order 0, 1, 2, ... and methods are never removed.",
                Edges04AddMethodTest::indicesHaveNoGaps);
        check.sentence("Several methods may share the same task.", Edges04AddMethodTest::allShareOneTask);
        check.sentence("Existing methods, the operators, the initial task list and the initial state do not change.",
                Edges04AddMethodTest::restStays);
        check.end();
    }

    private static void refused(HtnPlanner x, int task) {
        String call = "addMethod(" + task + ")";
        check.leavesAll(call, x, () -> check.due(call, x.addMethod(task), -1L));
    }

    private static void taskOutside() {
        HtnPlanner x = Samples.halfExecuted();
        for (int task : Edges.outside(16, 31)) {
            refused(x, task);
        }
        for (int task = 0; task <= 15; task++) {
            refused(x, task);
        }
        check.due("addMethod(16)", x.addMethod(16), 3L);
        check.due("addMethod(31)", x.addMethod(31), 4L);
    }

    private static void full() {
        HtnPlanner x = new HtnPlanner(1, 1);
        for (int m = 0; m < 31; m++) {
            x.addMethod(16);
        }
        check.due("the last addMethod", x.addMethod(31), 31L);
        x.plan();
        for (int task = 16; task <= 31; task++) {
            refused(x, task);
        }
        refused(x, 15);
        refused(x, 32);
    }

    private static void refusedInEveryStatus() {
        for (HtnPlanner x : Samples.inEveryStatus().values()) {
            refused(x, 15);
            refused(x, 32);
            refused(x, -1);
            for (int i = 0; i < HtnPlanner.MAX_METHODS; i++) {
                x.addMethod(30);
            }
            x.plan();
            x.executeStep();
            refused(x, 16);
            refused(x, 31);
        }
        refused(Samples.full(), 16);
    }

    /** Each method is filled before the next is added. */
    private static void newMethodIsEmpty() {
        HtnPlanner x = new HtnPlanner(1, 1);
        for (int m = 0; m < 32; m++) {
            check.due("addMethod", x.addMethod(16 + m % 16), m);
            check.same("method " + m, Check.method(x, m), "0,0," + (16 + m % 16) + ",-1,-1,-1,-1,");
            x.setSet(HtnPlanner.SET_M_PRE, m, -1L);
            x.setSet(HtnPlanner.SET_M_NEG, m, -1L);
            for (int k = 0; k < 5; k++) {
                x.addSubtask(m, 7);
            }
        }
    }

    private static void countGrowsByOne() {
        HtnPlanner x = new HtnPlanner(1, 1);
        for (int m = 0; m < 32; m++) {
            check.due("the count before", x.getInfo(HtnPlanner.INFO_METHOD_COUNT), m);
            x.addMethod(16);
            check.due("the count after", x.getInfo(HtnPlanner.INFO_METHOD_COUNT), m + 1);
        }
    }

    private static void discards() {
        for (HtnPlanner x : Samples.inEveryStatus().values()) {
            check.due("addMethod(31)", x.addMethod(31), 3L);
            check.discarded("addMethod(31)", x);
        }
    }

    /** Calls of every other kind between, and refused ones, take and free no index. */
    private static void indicesHaveNoGaps() {
        HtnPlanner x = new HtnPlanner(2, 9);
        for (int m = 0; m < 32; m++) {
            x.addMethod(15);
            x.addMethod(32);
            check.due("addMethod(" + (31 - m % 16) + ")", x.addMethod(31 - m % 16), m);
            x.addInitialTask(31);
            x.plan();
            x.executeStep();
            x.resetExecutor();
            x.clearInitialTasks();
        }
        for (int m = 0; m < 32; m++) {
            check.due("the task of " + m, x.getMethodEntry(m, 0), 31 - m % 16);
        }
    }

    private static void allShareOneTask() {
        for (int task = 16; task <= 31; task++) {
            HtnPlanner x = Samples.planner(1, 32, task);
            for (int m = 0; m < 32; m++) {
                check.due("addMethod(" + task + ")", x.addMethod(task), m);
                x.setSet(HtnPlanner.SET_M_PRE, m, m < 31 ? 1L : 0L);
            }
            check.planned("32 methods of task " + task, x, HtnPlanner.PLAN_FOUND, 32, "", "31,");
        }
    }

    private static void restStays() {
        Samples.inEveryStatus().forEach((name, x) -> {
            String before = Check.domain(x);
            x.addMethod(16);
            check.same("the domain after addMethod(16), " + name, Check.domain(x),
                    before.replace(" methods 3 ", " methods 4 ")
                            .replace(" tasks 2:", " 3:0,0,16,-1,-1,-1,-1, tasks 2:"));
        });
    }
}
