/** Promise 9, getInitialTask: a test for each sentence with an edge. */
public final class Edges09GetInitialTaskTest {
    private static final Check check = new Check();

    public static void main(String[] args) {
        check.sentence("`getInitialTask(i)` answers the i-th initial task (counting from 0, in the order appended) "
                + "when i is in 0..initialCount-1.", Edges09GetInitialTaskTest::everyTask);
        check.sentence("Otherwise it answers -1.", Edges09GetInitialTaskTest::outside);
        check.sentence("This call changes nothing.", Edges09GetInitialTaskTest::changesNothing);
        check.end();
    }

    private static void everyTask() {
        int[] tasks = {31, 0, 16, 15, 15, 30, 1, 31};
        HtnPlanner x = new HtnPlanner(1, 1);
        for (int count = 1; count <= 8; count++) {
            x.addInitialTask(tasks[count - 1]);
            for (int i = 0; i < count; i++) {
                check.due("getInitialTask(" + i + ") of " + count, x.getInitialTask(i), tasks[i]);
            }
        }
    }

    private static void allMissing(HtnPlanner x, int count) {
        for (int i : Edges.outside(0, count - 1)) {
            check.due("getInitialTask(" + i + ") of " + count, x.getInitialTask(i), -1L);
        }
    }

    private static void outside() {
        HtnPlanner x = new HtnPlanner(1, 1);
        for (int count = 0; count <= 8; count++) {
            allMissing(x, count);
            x.addInitialTask(7);
        }
        x.clearInitialTasks();
        allMissing(x, 0);
        x.addInitialTask(3);
        allMissing(x, 1);
    }

    private static void changesNothing() {
        Samples.inEveryStatus().forEach((name, x) -> check.leavesAll("getInitialTask, " + name, x, () -> {
            for (int i = -1; i <= 9; i++) {
                x.getInitialTask(i);
            }
        }));
    }
}
