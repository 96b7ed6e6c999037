/** Promise 13, resetExecutor: a test for each sentence with an edge. */
public final class Edges13ResetExecutorTest {
    private static final Check check = new Check();

    public static void main(String[] args) {
        check.sentence("`resetExecutor()` sets the executor state to the initial state and the executor position to "
                + "0.", Edges13ResetExecutorTest::fromEveryPosition);
        check.sentence("It is never refused, in any status.", Edges13ResetExecutorTest::inAnyStatus);
        check.sentence("It does not DISCARD: status, plan, decomposition, expansions and the domain stay as they "
                + "are.", Edges13ResetExecutorTest::restStays);
        check.end();
    }

    private static void fromEveryPosition() {
        HtnPlanner x = Samples.full();
        for (int steps = 0; steps <= 33; steps++) {
            x.resetExecutor();
            check.due("getExecState() after " + steps + " steps and back", x.getExecState(), 0L);
            check.due("the position after " + steps + " steps and back", x.getInfo(HtnPlanner.INFO_EXEC_POS), 0L);
            for (int i = 0; i <= steps; i++) {
                x.executeStep();
            }
        }
    }

    private static void inAnyStatus() {
        HtnPlanner fresh = new HtnPlanner(1, 1);
        check.leavesAll("resetExecutor(), fresh", fresh, fresh::resetExecutor);
        Samples.inEveryStatus().forEach((name, x) -> {
            for (int time = 0; time < 2; time++) {
                x.resetExecutor();
                check.due("getExecState(), " + name, x.getExecState(), 1L | Long.MIN_VALUE);
                check.due("the position, " + name, x.getInfo(HtnPlanner.INFO_EXEC_POS), 0L);
            }
        });
    }

    private static void restStays() {
        Samples.inEveryStatus().forEach((name, x) -> {
            String before = rest(x);
            x.resetExecutor();
            check.same("the rest after resetExecutor(), " + name, rest(x), before);
        });
        HtnPlanner full = Samples.full();
        String before = rest(full);
        full.resetExecutor();
        check.same("the rest after resetExecutor(), full", rest(full), before);
    }

    private static String rest(HtnPlanner x) {
        return Check.domain(x) + " status " + x.getInfo(HtnPlanner.INFO_STATUS)
                + " expansions " + x.getInfo(HtnPlanner.INFO_EXPANSIONS)
                + " plan " + Check.plan(x) + " decomposition " + Check.decomposition(x);
    }
}
