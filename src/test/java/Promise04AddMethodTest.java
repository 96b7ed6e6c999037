/** Promise 4: addMethod. */
public final class Promise04AddMethodTest {
    private static final Check check = new Check();

    public static void main(String[] args) {
        everyCompoundTaskIsTaken();
        refusals();
        indicesUpToTheLast();
        check.end();
    }

    private static void everyCompoundTaskIsTaken() {
        for (int task = 16; task <= 31; task++) {
            HtnPlanner x = Samples.halfExecuted();
            String call = "addMethod(" + task + ")";
            String domain = Check.domain(x);
            check.due(call, x.addMethod(task), 3L);
            check.discarded(call, x);
            String added = domain.replace(" methods 3 ", " methods 4 ")
                    .replace(" tasks 2:", " 3:0,0," + task + ",-1,-1,-1,-1, tasks 2:");
            check.same("the domain after " + call, Check.domain(x), added);
        }
    }

    private static void refusals() {
        for (int task : new int[] {Integer.MIN_VALUE, -16, -1, 0, 1, 14, 15, 32, 33, 48, Integer.MAX_VALUE}) {
            refused(Samples.halfExecuted(), task);
        }
    }

    private static void refused(HtnPlanner x, int task) {
        String call = "addMethod(" + task + ")";
        String before = Check.all(x);
        check.due(call, x.addMethod(task), -1L);
        check.same("all after the refused " + call, Check.all(x), before);
    }

    private static void indicesUpToTheLast() {
        HtnPlanner x = new HtnPlanner(1, 1);
        for (int m = 0; m < 32; m++) {
            int task = m < 4 ? 20 : 16 + m % 16;
            check.due("addMethod(" + task + ")", x.addMethod(task), m);
            check.due("the method count", x.getInfo(HtnPlanner.INFO_METHOD_COUNT), m + 1);
            check.due("getMethodEntry(" + m + ", 0)", x.getMethodEntry(m, 0), task);
        }
        x.addInitialTask(3);
        x.plan();
        x.executeStep();
        refused(x, 16);
        refused(x, 31);
        refused(x, 15);
        check.due("the method count when full", x.getInfo(HtnPlanner.INFO_METHOD_COUNT), 32L);
        for (int m = 0; m < 32; m++) {
            check.due("the task of " + m, x.getMethodEntry(m, 0), m < 4 ? 20 : 16 + m % 16);
        }
    }
}
