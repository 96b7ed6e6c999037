/** Promise 9: getInitialTask. */
public final class Promise09GetInitialTaskTest {
    private static final Check check = new Check();

    public static void main(String[] args) {
        HtnPlanner x = new HtnPlanner(4, 20);
        tasks(x);
        int[] added = {31, 0, 16, 15, 15, 2, 30, 1};
        for (int count = 1; count <= 8; count++) {
            x.addInitialTask(added[count - 1]);
            int[] due = java.util.Arrays.copyOf(added, count);
            tasks(x, due);
        }
        HtnPlanner y = Samples.halfExecuted();
        String before = Check.all(y);
        tasks(y, 16, 1);
        check.same("all after getInitialTask", Check.all(y), before);
        check.end();
    }

    private static void tasks(HtnPlanner x, int... due) {
        for (int i = 0; i < due.length; i++) {
            check.due("getInitialTask(" + i + ")", x.getInitialTask(i), due[i]);
        }
        for (int i : new int[] {Integer.MIN_VALUE, -1, due.length, due.length + 1, 8, 9, Integer.MAX_VALUE}) {
            check.due("getInitialTask(" + i + ")", x.getInitialTask(i), -1L);
        }
    }
}
