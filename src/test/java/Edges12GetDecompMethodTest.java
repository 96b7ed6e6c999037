/** Promise 12, getDecompMethod: a test for each sentence with an edge. */
public final class Edges12GetDecompMethodTest {
    private static final Check check = new Check();

    public static void main(String[] args) {
        check.sentence("`getDecompMethod(i)` answers the i-th method index of the decomposition when i is in "
                + "0..decompLength-1.", Edges12GetDecompMethodTest::everyMethod);
        check.sentence("Methods appear in the order they were applied on the successful branch.",
                Edges12GetDecompMethodTest::inTheOrderApplied);
        check.sentence("Otherwise it answers -1.", Edges12GetDecompMethodTest::outside);
        check.sentence("This call changes nothing.", Edges12GetDecompMethodTest::changesNothing);
        check.end();
    }

    /** Task 16 + m is done by method m, which has the next task, up to the depth. */
    private static HtnPlanner ofLength(int length) {
        HtnPlanner x = new HtnPlanner(16, 1024);
        for (int m = 0; m < length; m++) {
            x.addMethod(16 + m);
            x.addSubtask(m - 1, 16 + m);
        }
        if (length > 0) {
            x.addInitialTask(16);
        }
        x.plan();
        return x;
    }

    private static void everyMethod() {
        for (int length = 0; length <= 16; length++) {
            HtnPlanner x = ofLength(length);
            for (int i = 0; i < length; i++) {
                check.due("getDecompMethod(" + i + ") of " + length, x.getDecompMethod(i), i);
            }
        }
    }

    /** Subtasks come before the tasks behind them, and a method given up leaves no trace. */
    private static void inTheOrderApplied() {
        HtnPlanner x = Samples.planner(16, 1024, 31, 30, 31);
        Samples.forbid(x, 0);
        Samples.method(x, 30, 0);
        Samples.method(x, 30);
        Samples.method(x, 29, 30);
        Samples.method(x, 31, 29, 0);
        Samples.method(x, 31, 29, 30);
        x.plan();
        check.same("the decomposition", Check.decomposition(x), "4,2,1,1,1,4,2,1,1,");
    }

    private static void allMissing(String name, HtnPlanner x, int length) {
        for (int i : Edges.outside(0, length - 1)) {
            check.due("getDecompMethod(" + i + "), " + name, x.getDecompMethod(i), -1L);
        }
    }

    private static void outside() {
        for (int length = 0; length <= 16; length++) {
            allMissing("a decomposition of " + length, ofLength(length), length);
        }
        allMissing("fresh", new HtnPlanner(1, 1), 0);
        Samples.inEveryStatus().forEach((name, x) -> {
            boolean found = x.getInfo(HtnPlanner.INFO_STATUS) == HtnPlanner.PLAN_FOUND;
            allMissing(name, x, found ? 2 : 0);
        });
        HtnPlanner shorter = ofLength(16);
        shorter.clearInitialTasks();
        allMissing("a decomposition dropped", shorter, 0);
        shorter.addInitialTask(31);
        shorter.plan();
        allMissing("a short decomposition after a long one", shorter, 1);
        HtnPlanner operators = Samples.planner(16, 9, 0, 1, 2);
        operators.plan();
        allMissing("a plan of operators alone", operators, 0);
    }

    private static void changesNothing() {
        Samples.inEveryStatus().forEach((name, x) -> check.leavesAll("getDecompMethod, " + name, x, () -> {
            for (int i = -1; i <= 17; i++) {
                x.getDecompMethod(i);
            }
        }));
    }
}
