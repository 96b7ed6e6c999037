import java.lang.reflect.Field;

/** Promise 14, executeStep: a test for each sentence with an edge. */
public final class Edges14ExecuteStepTest {
    private static final Check check = new Check();

    public static void main(String[] args) {
        check.sentence("1. If status != `PLAN_FOUND`, it answers `EXEC_DONE`.",
                Edges14ExecuteStepTest::withoutPlan);
        check.sentence("2. If position == planLength, it answers `EXEC_DONE`.", Edges14ExecuteStepTest::atTheEnd);
        check.sentence("3. If operator k = plan[position] is not applicable in the executor state, it answers "
                + "`EXEC_FAIL`.", Edges14ExecuteStepTest::notApplicable);
        check.sentence("These three cases change nothing.", Edges14ExecuteStepTest::changesNothing);
        check.sentence("Otherwise the executor state becomes apply(k, executor state), the position grows by 1, and "
                + "the call answers k.", Edges14ExecuteStepTest::everyOperator);
        check.sentence("Because every change to the domain DISCARDs, a status of `PLAN_FOUND` always refers to the "
                + "domain currently stored.", Edges14ExecuteStepTest::changedDomain);
        check.sentence("Whenever `getInfo(INFO_STATUS)` is `PLAN_FOUND`, `executeStep` never answers `EXEC_FAIL`.",
                Edges14ExecuteStepTest::neverFails);
        check.sentence("the next n calls answer `getPlanStep(0)`, ..., `getPlanStep(n-1)` in order;",
                Edges14ExecuteStepTest::stepsOfThePlan);
        check.sentence("every later call answers `EXEC_DONE`.", Edges14ExecuteStepTest::laterCalls);
        check.sentence("The executor state after j steps is the state reached by applying the first j plan operators "
                + "to the initial state.", Edges14ExecuteStepTest::statesOnTheWay);
        check.sentence("`executeStep` never changes status, plan, decomposition, expansions or the domain.",
                Edges14ExecuteStepTest::restStays);
        check.end();
    }

    private static void done(String name, HtnPlanner x) {
        for (int time = 0; time < 3; time++) {
            check.due("executeStep(), " + name, x.executeStep(), HtnPlanner.EXEC_DONE);
        }
    }

    private static void withoutPlan() {
        done("fresh", new HtnPlanner(1, 1));
        Samples.inEveryStatus().forEach((name, x) -> {
            if (x.getInfo(HtnPlanner.INFO_STATUS) != HtnPlanner.PLAN_FOUND) {
                done(name, x);
            }
            x.addInitialTask(0);
            done("a task added, " + name, x);
        });
    }

    private static void atTheEnd() {
        HtnPlanner empty = new HtnPlanner(1, 1);
        empty.plan();
        done("an empty plan", empty);
        HtnPlanner methodsAlone = Samples.planner(1, 1, 16);
        methodsAlone.addMethod(16);
        methodsAlone.plan();
        done("a plan of a method alone", methodsAlone);
        for (int length = 1; length <= 8; length++) {
            HtnPlanner x = ofLength(length);
            for (int i = 0; i < length; i++) {
                check.due("executeStep() " + i + " of " + length, x.executeStep(), i);
            }
            done("after " + length + " steps", x);
        }
    }

    private static HtnPlanner ofLength(int length) {
        HtnPlanner x = new HtnPlanner(1, 8);
        for (int op = 0; op < length; op++) {
            x.addInitialTask(op);
            x.setSet(HtnPlanner.SET_OP_ADD, op, 1L << 63 - op);
        }
        x.plan();
        return x;
    }

    // No run of calls comes to this case, so the executor is moved from outside.
    private static void moveExecutor(HtnPlanner x, long state) {
        try {
            Field field = HtnPlanner.class.getDeclaredField("execState");
            field.setAccessible(true);
            field.setLong(x, state);
        } catch (ReflectiveOperationException missing) {
            throw new IllegalStateException("the executor state has another name now", missing);
        }
    }

    /** Operator 0 of the sample needs fact 0, operator 2 needs facts 1 and 63 without fact 0. */
    private static void notApplicable() {
        HtnPlanner x = Samples.solvable();
        x.plan();
        moveExecutor(x, 0L);
        check.due("executeStep() without a fact of PRE", x.executeStep(), HtnPlanner.EXEC_FAIL);
        moveExecutor(x, 1L);
        check.due("executeStep() with all of PRE", x.executeStep(), 0L);
        moveExecutor(x, Long.MIN_VALUE | 3L);
        check.due("executeStep() with a fact of NEG", x.executeStep(), HtnPlanner.EXEC_FAIL);
        moveExecutor(x, 2L);
        check.due("executeStep() with a part of PRE", x.executeStep(), HtnPlanner.EXEC_FAIL);
        moveExecutor(x, Long.MIN_VALUE | 2L);
        check.due("executeStep() with PRE and without NEG", x.executeStep(), 2L);
    }

    private static void changesNothing() {
        Samples.inEveryStatus().forEach((name, x) -> {
            if (!name.equals("found") && !name.equals("half executed")) {
                check.leavesAll("executeStep(), " + name, x, () -> done(name, x));
            }
        });
        HtnPlanner empty = new HtnPlanner(1, 1);
        empty.plan();
        check.leavesAll("executeStep(), an empty plan", empty, () -> done("an empty plan", empty));
        HtnPlanner failing = Samples.halfExecuted();
        moveExecutor(failing, 1L);
        check.leavesAll("executeStep() that fails", failing, () ->
                check.due("executeStep()", failing.executeStep(), HtnPlanner.EXEC_FAIL));
    }

    private static void everyOperator() {
        for (int op = 0; op < 16; op++) {
            HtnPlanner x = Samples.planner(1, 2, op, op);
            x.setSet(HtnPlanner.SET_INIT, 0, Long.MAX_VALUE);
            x.setSet(HtnPlanner.SET_OP_DEL, op, 7L << op);
            x.setSet(HtnPlanner.SET_OP_ADD, op, Long.MIN_VALUE | 2L << op);
            x.plan();
            for (int position = 1; position <= 2; position++) {
                check.due("executeStep()", x.executeStep(), op);
                check.due("the state after operator " + op, x.getExecState(), ~(5L << op));
                check.due("the position", x.getInfo(HtnPlanner.INFO_EXEC_POS), position);
            }
        }
    }

    /** The change would make the rest of the plan impossible. */
    private static void changedDomain() {
        HtnPlanner x = Samples.halfExecuted();
        x.setSet(HtnPlanner.SET_OP_PRE, 2, 1L << 40);
        check.due("the status after a change", x.getInfo(HtnPlanner.INFO_STATUS), HtnPlanner.STATUS_NONE);
        done("after a change", x);
        HtnPlanner y = Samples.halfExecuted();
        y.setSet(HtnPlanner.SET_INIT, 0, 0L);
        done("after a change of the initial state", y);
    }

    private static void neverFails() {
        Samples.inEveryStatus().forEach((name, x) -> {
            for (int time = 0; time < 3; time++) {
                for (int step = 0; step < 5; step++) {
                    check.due("executeStep() fails, " + name, x.executeStep() == HtnPlanner.EXEC_FAIL, false);
                }
                x.resetExecutor();
            }
        });
    }

    private static void replay(String name, HtnPlanner x) {
        int n = x.getInfo(HtnPlanner.INFO_PLAN_LENGTH);
        for (int i = 0; i < n; i++) {
            check.due("executeStep() " + i + ", " + name, x.executeStep(), x.getPlanStep(i));
        }
    }

    private static void stepsOfThePlan() {
        for (int length = 0; length <= 8; length++) {
            replay("right after plan()", ofLength(length));
        }
        HtnPlanner full = Samples.full();
        check.due("the plan length", full.getInfo(HtnPlanner.INFO_PLAN_LENGTH), 32L);
        for (int steps = 0; steps <= 33; steps++) {
            full.resetExecutor();
            replay("after resetExecutor()", full);
            full.plan();
            replay("after plan() again", full);
            full.resetExecutor();
            for (int i = 0; i < steps; i++) {
                full.executeStep();
            }
        }
    }

    private static void laterCalls() {
        HtnPlanner full = Samples.full();
        full.resetExecutor();
        replay("a full plan", full);
        long last = full.getExecState();
        for (int time = 0; time < 100; time++) {
            check.due("a later executeStep()", full.executeStep(), HtnPlanner.EXEC_DONE);
            check.due("the position", full.getInfo(HtnPlanner.INFO_EXEC_POS), 32L);
            check.due("the state", full.getExecState(), last);
        }
    }

    private static void statesOnTheWay() {
        HtnPlanner x = ofLength(8);
        long due = 0L;
        for (int op = 0; op < 8; op++) {
            check.due("the state after " + op + " steps", x.getExecState(), due);
            x.executeStep();
            due |= 1L << 63 - op;
        }
        check.due("the state after 8 steps", x.getExecState(), 0xffL << 56);
        x.resetExecutor();
        check.due("the state after 0 steps", x.getExecState(), 0L);
    }

    private static void restStays() {
        HtnPlanner x = Samples.full();
        x.resetExecutor();
        String domain = Check.domain(x);
        String plan = Check.plan(x);
        String decomposition = Check.decomposition(x);
        for (int step = 0; step < 34; step++) {
            x.executeStep();
            check.same("the domain after a step", Check.domain(x), domain);
            check.same("the plan after a step", Check.plan(x), plan);
            check.same("the decomposition after a step", Check.decomposition(x), decomposition);
            check.due("the status after a step", x.getInfo(HtnPlanner.INFO_STATUS), HtnPlanner.PLAN_FOUND);
            check.due("the expansions after a step", x.getInfo(HtnPlanner.INFO_EXPANSIONS), 40L);
        }
    }
}
