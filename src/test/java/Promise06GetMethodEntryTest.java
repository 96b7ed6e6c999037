/** Promise 6: getMethodEntry. */
public final class Promise06GetMethodEntryTest {
    private static final Check check = new Check();

    public static void main(String[] args) {
        HtnPlanner x = Samples.solvable();
        x.addMethod(31);
        x.addMethod(18);
        for (int task : new int[] {3, 31, 0, 16}) {
            x.addSubtask(4, task);
        }
        x.plan();
        x.executeStep();
        String before = Check.all(x);
        entries(x, 0, 16, 0, 1);
        entries(x, 1, 16, 0, 17);
        entries(x, 2, 17, 2);
        entries(x, 3, 31);
        entries(x, 4, 18, 3, 31, 0, 16);
        missingMethods(x);
        missingMethods(new HtnPlanner(1, 1), 0, 1, 2, 3, 4);
        check.same("all after getMethodEntry", Check.all(x), before);
        check.end();
    }

    private static void entries(HtnPlanner x, int m, int... due) {
        for (int k = 0; k < due.length; k++) {
            check.due("getMethodEntry(" + m + ", " + k + ")", x.getMethodEntry(m, k), due[k]);
        }
        for (int k : new int[] {Integer.MIN_VALUE, -1, due.length, due.length + 1, 5, Integer.MAX_VALUE}) {
            check.due("getMethodEntry(" + m + ", " + k + ")", x.getMethodEntry(m, k), -1L);
        }
    }

    private static void missingMethods(HtnPlanner x, int... more) {
        for (int k : new int[] {-1, 0, 1, 4, 5}) {
            for (int m : new int[] {Integer.MIN_VALUE, -1, 5, 6, 31, 32, Integer.MAX_VALUE}) {
                check.due("getMethodEntry(" + m + ", " + k + ")", x.getMethodEntry(m, k), -1L);
            }
            for (int m : more) {
                check.due("getMethodEntry(" + m + ", " + k + ")", x.getMethodEntry(m, k), -1L);
            }
        }
    }
}
