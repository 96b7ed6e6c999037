/** Counts and prints wrong answers, and reads back all that a planner shows. */
final class Check {
    private int wrong = 0;

    void due(String call, long got, long want) {
        if (got != want) {
            wrong++;
            System.out.println(call + " answered " + got + ", due is " + want);
        }
    }

    void due(String call, boolean got, boolean want) {
        if (got != want) {
            wrong++;
            System.out.println(call + " answered " + got + ", due is " + want);
        }
    }

    void same(String what, String got, String want) {
        if (!got.equals(want)) {
            wrong++;
            System.out.println(what + "\n  reads " + got + "\n  due is " + want);
        }
    }

    /** Runs the test of one sentence of the document, and tells the sentence if it does not hold. */
    void sentence(String sentence, Runnable test) {
        int before = wrong;
        try {
            test.run();
        } catch (RuntimeException | StackOverflowError thrown) {
            wrong++;
            System.out.println("a call threw " + thrown);
        }
        if (wrong != before) {
            System.out.println("  so this does not hold: " + sentence);
        }
    }

    /** A call that is refused, or that only reads. */
    void leavesAll(String call, HtnPlanner x, Runnable calls) {
        String before = all(x);
        calls.run();
        same("all after " + call, all(x), before);
    }

    /** Two searches with the same outcome, which leave the domain as it is. */
    void planned(String name, HtnPlanner x, int status, int expansions, String plan, String decomposition) {
        String domain = domain(x);
        String outcomeDue = outcomeText(status, expansions, plan, decomposition, 0,
                x.getSet(HtnPlanner.SET_INIT, 0));
        for (int time = 0; time < 2; time++) {
            due("plan() of " + name, x.plan(), status);
            same("the outcome of " + name, outcome(x), outcomeDue);
        }
        same("the domain after " + name, domain(x), domain);
    }

    /** After a call that DISCARDs: no outcome, and the executor at the initial state. */
    void discarded(String call, HtnPlanner x) {
        same("the outcome after " + call, outcome(x),
                outcomeText(HtnPlanner.STATUS_NONE, 0, "", "", 0, x.getSet(HtnPlanner.SET_INIT, 0)));
    }

    void end() {
        System.out.println(wrong == 0 ? "all answers are as due" : wrong + " answers are not as due");
        if (wrong != 0) {
            System.exit(1);
        }
    }

    static String all(HtnPlanner x) {
        return domain(x) + " | " + outcome(x);
    }

    static String domain(HtnPlanner x) {
        StringBuilder text = new StringBuilder();
        text.append(operators(x)).append(methods(x)).append(initialTasks(x));
        text.append(" init ").append(x.getSet(HtnPlanner.SET_INIT, 0));
        text.append(" depth ").append(x.getInfo(HtnPlanner.INFO_DEPTH_LIMIT));
        text.append(" budget ").append(x.getInfo(HtnPlanner.INFO_BUDGET));
        return text.toString();
    }

    static String operators(HtnPlanner x) {
        StringBuilder text = new StringBuilder("ops");
        for (int k = 0; k < HtnPlanner.NUM_OPS; k++) {
            text.append(' ').append(k).append(':');
            for (int which = HtnPlanner.SET_OP_PRE; which <= HtnPlanner.SET_OP_DEL; which++) {
                text.append(x.getSet(which, k)).append(',');
            }
        }
        return text.toString();
    }

    static String methods(HtnPlanner x) {
        int count = x.getInfo(HtnPlanner.INFO_METHOD_COUNT);
        StringBuilder text = new StringBuilder(" methods " + count);
        for (int m = 0; m < count; m++) {
            text.append(' ').append(m).append(':').append(method(x, m));
        }
        return text.toString();
    }

    static String method(HtnPlanner x, int m) {
        StringBuilder text = new StringBuilder();
        text.append(x.getSet(HtnPlanner.SET_M_PRE, m)).append(',');
        text.append(x.getSet(HtnPlanner.SET_M_NEG, m)).append(',');
        for (int k = 0; k <= HtnPlanner.MAX_SUBTASKS; k++) {
            text.append(x.getMethodEntry(m, k)).append(',');
        }
        return text.toString();
    }

    static String initialTasks(HtnPlanner x) {
        int count = x.getInfo(HtnPlanner.INFO_INITIAL_COUNT);
        StringBuilder text = new StringBuilder(" tasks " + count + ":");
        for (int i = 0; i < HtnPlanner.MAX_INITIAL; i++) {
            text.append(x.getInitialTask(i)).append(',');
        }
        return text.toString();
    }

    /** All that DISCARD sets back. */
    static String outcome(HtnPlanner x) {
        return outcomeText(x.getInfo(HtnPlanner.INFO_STATUS), x.getInfo(HtnPlanner.INFO_EXPANSIONS),
                plan(x), decomposition(x),
                x.getInfo(HtnPlanner.INFO_EXEC_POS), x.getExecState());
    }

    static String outcomeText(int status, int expansions, String plan, String decomposition,
            int position, long state) {
        return "status " + status + " expansions " + expansions + " plan " + plan
                + " decomposition " + decomposition + " at " + position + " in " + state;
    }

    /** Every step up to the length told, and any that answers beyond it. */
    static String plan(HtnPlanner x) {
        StringBuilder text = new StringBuilder();
        int length = x.getInfo(HtnPlanner.INFO_PLAN_LENGTH);
        for (int i = 0; i <= HtnPlanner.MAX_PLAN; i++) {
            if (i < length || x.getPlanStep(i) != -1) {
                text.append(x.getPlanStep(i)).append(',');
            }
        }
        return text.toString();
    }

    static String decomposition(HtnPlanner x) {
        StringBuilder text = new StringBuilder();
        int length = x.getInfo(HtnPlanner.INFO_DECOMP_LENGTH);
        for (int i = 0; i <= 16; i++) {
            if (i < length || x.getDecompMethod(i) != -1) {
                text.append(x.getDecompMethod(i)).append(',');
            }
        }
        return text.toString();
    }
}
