/** Promise 16: getInfo. */
public final class Promise16GetInfoTest {
    private static final Check check = new Check();

    public static void main(String[] args) {
        info("fresh", new HtnPlanner(7, 9), 0, 0, 0, 0, 0, 0, 0, 7, 9);
        info("without a search", Samples.solvable(), 0, 0, 0, 0, 0, 3, 2, 5, 40);
        HtnPlanner x = Samples.halfExecuted();
        info("found", x, 1, 3, 2, 8, 1, 3, 2, 5, 40);
        x.executeStep();
        info("a step on", x, 1, 3, 2, 8, 2, 3, 2, 5, 40);
        x.addMethod(16);
        info("after DISCARD", x, 0, 0, 0, 0, 0, 4, 2, 5, 40);
        info("failed", Samples.failed(), 2, 0, 0, 7, 0, 3, 2, 5, 40);
        info("out of budget", Samples.outOfBudget(), 3, 0, 0, 3, 0, 1, 1, 16, 3);
        check.end();
    }

    private static void info(String name, HtnPlanner x, int... due) {
        String all = Check.all(x);
        for (int what = 0; what < due.length; what++) {
            check.due("getInfo(" + what + "), " + name, x.getInfo(what), due[what]);
        }
        for (int what : new int[] {Integer.MIN_VALUE, -2, -1, 9, 10, 16, Integer.MAX_VALUE}) {
            check.due("getInfo(" + what + "), " + name, x.getInfo(what), -1L);
        }
        check.same("all after getInfo, " + name, Check.all(x), all);
    }
}
