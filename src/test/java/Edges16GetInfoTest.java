import java.util.Map;

/** Promise 16, getInfo: a test for each row with an edge. */
public final class Edges16GetInfoTest {
    private static final Check check = new Check();

    public static void main(String[] args) {
        check.sentence("`getInfo(what)` changes nothing.", Edges16GetInfoTest::changesNothing);
        check.sentence("`INFO_STATUS`: the status", () -> inEveryStatus(HtnPlanner.INFO_STATUS, 0, 1, 1, 1, 2, 3));
        check.sentence("`INFO_PLAN_LENGTH`: the plan length", Edges16GetInfoTest::planLength);
        check.sentence("`INFO_DECOMP_LENGTH`: the decomposition length", Edges16GetInfoTest::decompLength);
        check.sentence("`INFO_EXPANSIONS`: E of the last search (0 after DISCARD)", Edges16GetInfoTest::expansions);
        check.sentence("`INFO_EXEC_POS`: the executor position", Edges16GetInfoTest::execPosition);
        check.sentence("`INFO_METHOD_COUNT`: the number of methods", Edges16GetInfoTest::methodCount);
        check.sentence("`INFO_INITIAL_COUNT`: the number of initial tasks", Edges16GetInfoTest::initialCount);
        check.sentence("`INFO_DEPTH_LIMIT`: the clamped constructor depthLimit", () -> {
            info("limit 0", new HtnPlanner(0, 9), HtnPlanner.INFO_DEPTH_LIMIT, 1);
            info("limit 17", new HtnPlanner(17, 9), HtnPlanner.INFO_DEPTH_LIMIT, 16);
        });
        check.sentence("`INFO_BUDGET`: the clamped constructor budget", () -> {
            info("budget 0", new HtnPlanner(9, 0), HtnPlanner.INFO_BUDGET, 1);
            info("budget 1025", new HtnPlanner(9, 1025), HtnPlanner.INFO_BUDGET, 1024);
        });
        check.sentence("any other value, negative or above 8: -1", Edges16GetInfoTest::otherValues);
        check.end();
    }

    private static void info(String name, HtnPlanner x, int what, int due) {
        check.due("getInfo(" + what + "), " + name, x.getInfo(what), due);
    }

    private static void inEveryStatus(int what, int... due) {
        int i = 0;
        for (Map.Entry<String, HtnPlanner> sample : Samples.inEveryStatus().entrySet()) {
            info(sample.getKey(), sample.getValue(), what, due[i]);
            i++;
        }
        info("fresh", new HtnPlanner(3, 3), what, 0);
    }

    private static void changesNothing() {
        Samples.inEveryStatus().forEach((name, x) -> check.leavesAll("getInfo, " + name, x, () -> {
            for (int what = -2; what <= 10; what++) {
                x.getInfo(what);
            }
        }));
    }

    private static void planLength() {
        inEveryStatus(HtnPlanner.INFO_PLAN_LENGTH, 0, 3, 3, 3, 0, 0);
        info("full", Samples.full(), HtnPlanner.INFO_PLAN_LENGTH, 32);
    }

    private static void decompLength() {
        inEveryStatus(HtnPlanner.INFO_DECOMP_LENGTH, 0, 2, 2, 2, 0, 0);
        HtnPlanner x = Samples.planner(16, 100, 16);
        Samples.method(x, 16, 16);
        Samples.method(x, 16);
        x.plan();
        info("the greatest depth", x, HtnPlanner.INFO_DECOMP_LENGTH, 16);
    }

    private static void expansions() {
        inEveryStatus(HtnPlanner.INFO_EXPANSIONS, 0, 8, 8, 8, 7, 3);
        for (HtnPlanner x : Samples.inEveryStatus().values()) {
            x.clearInitialTasks();
            info("after DISCARD", x, HtnPlanner.INFO_EXPANSIONS, 0);
        }
        HtnPlanner most = Samples.planner(16, 1024, 16);
        Samples.method(most, 16, 16);
        Samples.method(most, 16, 16);
        most.plan();
        info("the greatest budget", most, HtnPlanner.INFO_EXPANSIONS, 1024);
        most.clearInitialTasks();
        most.plan();
        info("a search after it", most, HtnPlanner.INFO_EXPANSIONS, 0);
    }

    private static void execPosition() {
        inEveryStatus(HtnPlanner.INFO_EXEC_POS, 0, 0, 1, 3, 0, 0);
        HtnPlanner x = Samples.full();
        x.resetExecutor();
        for (int step = 0; step <= 34; step++) {
            info("step " + step, x, HtnPlanner.INFO_EXEC_POS, Math.min(step, 32));
            x.executeStep();
        }
    }

    private static void methodCount() {
        inEveryStatus(HtnPlanner.INFO_METHOD_COUNT, 3, 3, 3, 3, 3, 3);
        HtnPlanner x = new HtnPlanner(1, 1);
        for (int added = 0; added <= 34; added++) {
            info(added + " added", x, HtnPlanner.INFO_METHOD_COUNT, Math.min(added, 32));
            x.addMethod(31);
            x.addMethod(32);
        }
    }

    private static void initialCount() {
        inEveryStatus(HtnPlanner.INFO_INITIAL_COUNT, 2, 2, 2, 2, 2, 2);
        HtnPlanner x = new HtnPlanner(1, 1);
        for (int added = 0; added <= 10; added++) {
            info(added + " added", x, HtnPlanner.INFO_INITIAL_COUNT, Math.min(added, 8));
            x.addInitialTask(31);
            x.addInitialTask(32);
        }
        x.clearInitialTasks();
        info("cleared", x, HtnPlanner.INFO_INITIAL_COUNT, 0);
    }

    private static void otherValues() {
        HtnPlanner fresh = new HtnPlanner(1, 1);
        HtnPlanner full = Samples.full();
        for (int what : Edges.outside(0, 8)) {
            info("fresh", fresh, what, -1);
            info("full", full, what, -1);
            Samples.inEveryStatus().forEach((name, x) -> info(name, x, what, -1));
        }
    }
}
