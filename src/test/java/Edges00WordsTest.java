import java.util.LinkedHashMap;
import java.util.Map;
import java.util.function.BiConsumer;
import java.util.function.Consumer;

/** The words that the promises use: a test for each sentence with an edge. */
public final class Edges00WordsTest {
    private static final Check check = new Check();

    public static void main(String[] args) {
        check.sentence("Bit 63 is the sign bit, so negative values are ordinary states.",
                Edges00WordsTest::negativeStates);
        check.sentence("An operator or method with sets PRE and NEG is applicable in state S when "
                + "`(S & PRE) == PRE` and `(S & NEG) == 0`.", Edges00WordsTest::oneFactTooFewOrTooMany);
        check.sentence("With PRE = NEG = 0 it is applicable in every state.",
                Edges00WordsTest::emptySetsApplyEverywhere);
        check.sentence("If PRE and NEG share a bit, it is applicable in no state.",
                Edges00WordsTest::sharedFactAppliesNowhere);
        check.sentence("Applying operator k to S gives `(S & ~DEL) | ADD`, using operator k's DEL and ADD.",
                Edges00WordsTest::everyOperatorUsesItsOwnSets);
        check.sentence("Deletion comes first and ADD wins, so a fact in both ADD and DEL holds afterwards.",
                Edges00WordsTest::addWins);
        check.sentence("status = `STATUS_NONE`;", () -> discardSets(HtnPlanner.INFO_STATUS));
        check.sentence("plan length 0 and decomposition length 0;", Edges00WordsTest::discardEmptiesBoth);
        check.sentence("expansions 0;", () -> discardSets(HtnPlanner.INFO_EXPANSIONS));
        check.sentence("executor state = initial state (the initial state as it is after the change);",
                Edges00WordsTest::discardMovesTheExecutor);
        check.sentence("executor position 0.", () -> discardSets(HtnPlanner.INFO_EXEC_POS));
        check.sentence("DISCARD itself leaves the operator sets, the methods, the initial task list, "
                + "the initial state, the depth limit and the budget as they are.",
                Edges00WordsTest::discardLeavesTheDomain);
        check.sentence("A refused call changes nothing at all and does not DISCARD.",
                Edges00WordsTest::refusedCallsChangeNothing);
        check.sentence("The number of methods added so far and the number of tasks in the initial task list.",
                Edges00WordsTest::countsFromEmptyToFull);
        check.end();
    }

    private static void negativeStates() {
        HtnPlanner x = Samples.planner(1, 3, 0, 1, 2);
        x.setSet(HtnPlanner.SET_INIT, 0, -1L);
        x.setSet(HtnPlanner.SET_OP_PRE, 0, -1L);
        x.setSet(HtnPlanner.SET_OP_DEL, 0, Long.MIN_VALUE);
        x.setSet(HtnPlanner.SET_OP_NEG, 1, Long.MIN_VALUE);
        x.setSet(HtnPlanner.SET_OP_DEL, 1, Long.MAX_VALUE);
        x.setSet(HtnPlanner.SET_OP_ADD, 1, Long.MIN_VALUE);
        x.setSet(HtnPlanner.SET_OP_PRE, 2, Long.MIN_VALUE);
        x.setSet(HtnPlanner.SET_OP_NEG, 2, Long.MAX_VALUE);
        check.planned("operators on fact 63", x, HtnPlanner.PLAN_FOUND, 3, "0,1,2,", "");
        check.due("the state at the start", x.getExecState(), -1L);
        x.executeStep();
        check.due("the state without fact 63", x.getExecState(), Long.MAX_VALUE);
        x.executeStep();
        check.due("the state of fact 63 alone", x.getExecState(), Long.MIN_VALUE);
    }

    private static void applicable(long state, long pre, long neg, boolean due) {
        String sets = "with PRE " + pre + " and NEG " + neg + " in " + state;
        HtnPlanner byOperator = Samples.planner(1, 2, 15);
        byOperator.setSet(HtnPlanner.SET_OP_PRE, 15, pre);
        byOperator.setSet(HtnPlanner.SET_OP_NEG, 15, neg);
        byOperator.setSet(HtnPlanner.SET_INIT, 0, state);
        check.due("operator applicable " + sets, byOperator.plan() == HtnPlanner.PLAN_FOUND, due);
        HtnPlanner byMethod = Samples.planner(1, 2, 16);
        byMethod.addMethod(16);
        byMethod.setSet(HtnPlanner.SET_M_PRE, 0, pre);
        byMethod.setSet(HtnPlanner.SET_M_NEG, 0, neg);
        byMethod.setSet(HtnPlanner.SET_INIT, 0, state);
        check.due("method applicable " + sets, byMethod.plan() == HtnPlanner.PLAN_FOUND, due);
    }

    private static void oneFactTooFewOrTooMany() {
        for (int i = 0; i < 64; i++) {
            long fact = 1L << i;
            applicable(fact, fact, 0L, true);
            applicable(~fact, fact, 0L, false);
            applicable(~fact, -1L, 0L, false);
            applicable(~fact, 0L, fact, true);
            applicable(fact, 0L, fact, false);
            applicable(fact, 0L, -1L, false);
            applicable(fact, fact, ~fact, true);
            applicable(~fact, ~fact, fact, true);
        }
        applicable(-1L, -1L, 0L, true);
        applicable(0L, 0L, -1L, true);
    }

    private static void emptySetsApplyEverywhere() {
        for (long state : Edges.states()) {
            applicable(state, 0L, 0L, true);
        }
    }

    private static void sharedFactAppliesNowhere() {
        for (int i = 0; i < 64; i++) {
            long fact = 1L << i;
            for (long state : new long[] {0L, fact, ~fact, -1L}) {
                applicable(state, fact, fact, false);
                applicable(state, fact | 1L, fact | 2L, false);
            }
        }
    }

    private static void everyOperatorUsesItsOwnSets() {
        for (int k = 0; k < 16; k++) {
            HtnPlanner x = Samples.planner(1, 1, k);
            for (int op = 0; op < 16; op++) {
                x.setSet(HtnPlanner.SET_OP_DEL, op, 1L << op);
                x.setSet(HtnPlanner.SET_OP_ADD, op, 1L << 63 - op);
            }
            x.setSet(HtnPlanner.SET_INIT, 0, 0xffffffffL);
            x.plan();
            check.due("executeStep()", x.executeStep(), k);
            check.due("the state after operator " + k, x.getExecState(),
                    0xffffffffL - (1L << k) | 1L << 63 - k);
        }
    }

    private static void addWins() {
        for (int i = 0; i < 64; i++) {
            long fact = 1L << i;
            for (long state : new long[] {0L, fact, ~fact, -1L}) {
                HtnPlanner x = Samples.planner(1, 2, 0, 1);
                x.setSet(HtnPlanner.SET_INIT, 0, state);
                x.setSet(HtnPlanner.SET_OP_DEL, 0, -1L);
                x.setSet(HtnPlanner.SET_OP_ADD, 0, fact);
                x.setSet(HtnPlanner.SET_OP_PRE, 1, fact);
                x.setSet(HtnPlanner.SET_OP_NEG, 1, ~fact);
                check.due("plan() that needs fact " + i, x.plan(), HtnPlanner.PLAN_FOUND);
                x.executeStep();
                check.due("the state with fact " + i + " alone", x.getExecState(), fact);
            }
        }
    }

    private static Map<String, Consumer<HtnPlanner>> discardingCalls() {
        Map<String, Consumer<HtnPlanner>> calls = new LinkedHashMap<>();
        for (int which = 0; which <= 6; which++) {
            int set = which;
            calls.put("setSet(" + set + ", 0, -9)", x -> x.setSet(set, 0, -9L));
            calls.put("setSet(" + set + ", 0, unchanged)", x -> x.setSet(set, 0, x.getSet(set, 0)));
        }
        calls.put("addMethod(31)", x -> x.addMethod(31));
        calls.put("addSubtask(2, 9)", x -> x.addSubtask(2, 9));
        calls.put("addInitialTask(9)", x -> x.addInitialTask(9));
        calls.put("clearInitialTasks()", x -> x.clearInitialTasks());
        return calls;
    }

    private static void afterEveryDiscard(BiConsumer<String, HtnPlanner> test) {
        discardingCalls().forEach((call, discarding) ->
                Samples.inEveryStatus().forEach((name, x) -> {
                    discarding.accept(x);
                    test.accept(call + ", " + name, x);
                }));
    }

    private static void discardSets(int what) {
        afterEveryDiscard((call, x) -> check.due("getInfo(" + what + ") after " + call, x.getInfo(what), 0L));
    }

    private static void discardEmptiesBoth() {
        discardSets(HtnPlanner.INFO_PLAN_LENGTH);
        discardSets(HtnPlanner.INFO_DECOMP_LENGTH);
        afterEveryDiscard((call, x) -> {
            check.due("getPlanStep(0) after " + call, x.getPlanStep(0), -1L);
            check.due("getDecompMethod(0) after " + call, x.getDecompMethod(0), -1L);
            check.due("executeStep() after " + call, x.executeStep(), HtnPlanner.EXEC_DONE);
        });
    }

    private static void discardMovesTheExecutor() {
        afterEveryDiscard((call, x) -> check.due("getExecState() after " + call, x.getExecState(),
                call.startsWith("setSet(6, 0, -9)") ? -9L : 1L | Long.MIN_VALUE));
    }

    /** The calls that set a set to what it is, and the clearing of an empty list, only DISCARD. */
    private static void discardLeavesTheDomain() {
        for (HtnPlanner x : Samples.inEveryStatus().values()) {
            String before = Check.domain(x);
            for (int which = 0; which <= 6; which++) {
                x.setSet(which, 0, x.getSet(which, 0));
                check.same("the domain after setSet of " + which, Check.domain(x), before);
            }
            x.clearInitialTasks();
            before = Check.domain(x);
            x.clearInitialTasks();
            check.same("the domain after clearInitialTasks()", Check.domain(x), before);
        }
    }

    private static Map<String, Consumer<HtnPlanner>> refusedCalls() {
        Map<String, Consumer<HtnPlanner>> calls = new LinkedHashMap<>();
        calls.put("setSet(-1, 0, 5)", x -> x.setSet(-1, 0, 5L));
        calls.put("setSet(7, 0, 5)", x -> x.setSet(7, 0, 5L));
        for (int which = 0; which <= 6; which++) {
            int set = which;
            calls.put("setSet(" + set + ", -1, 5)", x -> x.setSet(set, -1, 5L));
            calls.put("setSet(" + set + ", 32, 5)", x -> x.setSet(set, 32, 5L));
        }
        calls.put("addMethod(15)", x -> x.addMethod(15));
        calls.put("addMethod(32)", x -> x.addMethod(32));
        calls.put("addSubtask(-1, 0)", x -> x.addSubtask(-1, 0));
        calls.put("addSubtask(32, 0)", x -> x.addSubtask(32, 0));
        calls.put("addSubtask(0, -1)", x -> x.addSubtask(0, -1));
        calls.put("addSubtask(0, 32)", x -> x.addSubtask(0, 32));
        calls.put("addInitialTask(-1)", x -> x.addInitialTask(-1));
        calls.put("addInitialTask(32)", x -> x.addInitialTask(32));
        return calls;
    }

    private static void refusedCallsChangeNothing() {
        refusedCalls().forEach((call, refused) -> {
            Samples.inEveryStatus().forEach((name, x) ->
                    check.leavesAll(call + ", " + name, x, () -> refused.accept(x)));
            HtnPlanner fresh = new HtnPlanner(1, 1);
            check.leavesAll(call + ", fresh", fresh, () -> refused.accept(fresh));
            HtnPlanner full = Samples.full();
            check.leavesAll(call + ", full", full, () -> refused.accept(full));
        });
        HtnPlanner full = Samples.full();
        check.leavesAll("addMethod(16), full", full, () -> full.addMethod(16));
        check.leavesAll("addSubtask(31, 0), full", full, () -> full.addSubtask(31, 0));
        check.leavesAll("addInitialTask(0), full", full, () -> full.addInitialTask(0));
    }

    private static void countsFromEmptyToFull() {
        HtnPlanner x = new HtnPlanner(1, 1);
        for (int added = 0; added <= 33; added++) {
            check.due("the method count", x.getInfo(HtnPlanner.INFO_METHOD_COUNT), Math.min(added, 32));
            check.due("the initial count", x.getInfo(HtnPlanner.INFO_INITIAL_COUNT), Math.min(added, 8));
            x.addMethod(16);
            x.addInitialTask(0);
        }
        x.clearInitialTasks();
        check.due("the method count when cleared", x.getInfo(HtnPlanner.INFO_METHOD_COUNT), 32L);
        check.due("the initial count when cleared", x.getInfo(HtnPlanner.INFO_INITIAL_COUNT), 0L);
    }
}
