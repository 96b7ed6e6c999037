/** Promises 1 to 16: long mixed runs of calls, each answer compared with the model's. */
public final class ModelTest {
    private static final int RUNS = 4000;
    private static final int CALLS = 400;
    private static final int[] WRONG = {Integer.MIN_VALUE, -1, 7, 8, 9, 16, 32, 33, Integer.MAX_VALUE};

    private static final Check check = new Check();
    private static final int[] outcomes = new int[4];
    private static int fullPlans = 0;
    private static int deepest = 0;

    // A fixed sequence of numbers, so that every run of the test is the same.
    private long seed = 0L;
    private HtnPlanner x;
    private Model model;
    private int compoundTasks;
    private int facts;

    public static void main(String[] args) {
        ModelTest test = new ModelTest();
        for (int run = 0; run < RUNS; run++) {
            test.run(run);
        }
        System.out.println("searches: " + outcomes[1] + " found, " + outcomes[2] + " failed, "
                + outcomes[3] + " out of budget; " + fullPlans + " full plans, "
                + deepest + " at the greatest depth");
        check.due("there are searches of each outcome",
                outcomes[1] > 1000 && outcomes[2] > 1000 && outcomes[3] > 1000, true);
        check.due("there are full plans and greatest depths", fullPlans > 10 && deepest > 10, true);
        check.end();
    }

    private void run(int run) {
        seed = run;
        int depthLimit = below(4) == 0 ? below(20) - 1 : 16 - below(6);
        int budget = below(3) == 0 ? below(40) - 1 : 1030 - below(200);
        x = new HtnPlanner(depthLimit, budget);
        model = new Model(depthLimit, budget);
        compoundTasks = 1 + below(6);
        facts = 1 + below(10);
        int calls = 20 + below(CALLS);
        for (int call = 0; call < calls; call++) {
            step("run " + run + " call " + call + ": ");
        }
    }

    private int below(int bound) {
        seed = seed * 6364136223846793005L + 1442695040888963407L;
        return (int) ((seed >>> 33) % bound);
    }

    /** Mostly a value that is in the range, at times a wrong one. */
    private int upTo(int bound) {
        return below(25) == 0 ? WRONG[below(WRONG.length)] : below(bound);
    }

    /** Few facts, so that they matter to each other, the sign bit among them. */
    private long factSet(int most) {
        long set = 0L;
        int count = below(most + 1);
        for (int i = 0; i < count; i++) {
            set |= 1L << 63 - below(facts) * 7;
        }
        return set;
    }

    private int task() {
        return below(2) == 0 ? upTo(16) : 16 + upTo(compoundTasks);
    }

    private void step(String at) {
        int kind = below(100);
        if (kind < 20) {
            setSet(at);
        } else if (kind < 28) {
            int task = below(10) == 0 ? task() : 16 + below(compoundTasks);
            check.due(at + "addMethod(" + task + ")", x.addMethod(task), model.addMethod(task));
        } else if (kind < 48) {
            int m = upTo(Math.max(1, x.getInfo(HtnPlanner.INFO_METHOD_COUNT)));
            int task = task();
            check.due(at + "addSubtask(" + m + ", " + task + ")",
                    x.addSubtask(m, task), model.addSubtask(m, task));
        } else if (kind < 56) {
            int task = task();
            check.due(at + "addInitialTask(" + task + ")",
                    x.addInitialTask(task), model.addInitialTask(task));
        } else if (kind < 57) {
            x.clearInitialTasks();
            model.clearInitialTasks();
        } else if (kind < 70) {
            search(at);
        } else if (kind < 90) {
            check.due(at + "executeStep()", x.executeStep(), model.executeStep());
        } else if (kind < 92) {
            x.resetExecutor();
            model.resetExecutor();
        } else {
            readAnything(at);
        }
        compareOutcome(at);
    }

    private void setSet(String at) {
        int which = upTo(7);
        int size = which <= 3 ? 16 : which <= 5 ? Math.max(1, x.getInfo(5)) : 1;
        int index = upTo(size);
        long bits = factSet(which == HtnPlanner.SET_INIT ? 8 : 1 + below(2));
        check.due(at + "setSet(" + which + ", " + index + ", " + bits + ")",
                x.setSet(which, index, bits), model.setSet(which, index, bits));
    }

    private void search(String at) {
        int status = x.plan();
        check.due(at + "plan()", status, model.plan());
        outcomes[status]++;
        if (x.getInfo(HtnPlanner.INFO_PLAN_LENGTH) == 32) {
            fullPlans++;
        }
        if (x.getInfo(HtnPlanner.INFO_DECOMP_LENGTH) == 16) {
            deepest++;
        }
        for (int i = -1; i <= 33; i++) {
            check.due(at + "getPlanStep(" + i + ")", x.getPlanStep(i), model.getPlanStep(i));
            check.due(at + "getDecompMethod(" + i + ")",
                    x.getDecompMethod(i), model.getDecompMethod(i));
        }
    }

    private void readAnything(String at) {
        int a = upTo(8);
        int b = upTo(32);
        int k = upTo(6);
        check.due(at + "getSet(" + a + ", " + b + ")", x.getSet(a, b), model.getSet(a, b));
        check.due(at + "getMethodEntry(" + b + ", " + k + ")",
                x.getMethodEntry(b, k), model.getMethodEntry(b, k));
        check.due(at + "getInitialTask(" + a + ")", x.getInitialTask(a), model.getInitialTask(a));
        check.due(at + "getPlanStep(" + b + ")", x.getPlanStep(b), model.getPlanStep(b));
        check.due(at + "getDecompMethod(" + b + ")", x.getDecompMethod(b), model.getDecompMethod(b));
    }

    private void compareOutcome(String at) {
        for (int what = -1; what <= 9; what++) {
            check.due(at + "getInfo(" + what + ")", x.getInfo(what), model.getInfo(what));
        }
        check.due(at + "getExecState()", x.getExecState(), model.getExecState());
    }
}
