/** Promise 3, getSet: a test for each sentence with an edge. */
public final class Edges03GetSetTest {
    private static final Check check = new Check();

    public static void main(String[] args) {
        check.sentence("`getSet(which, index)` uses the same validity conditions as `setSet`.",
                Edges03GetSetTest::sameConditions);
        check.sentence("If they hold, it answers the stored set; for `SET_INIT` with index 0, that is the initial "
                + "state.", Edges03GetSetTest::firstAndLast);
        check.sentence("If they do not hold, it answers 0.", Edges03GetSetTest::invalidIsZero);
        check.sentence("A stored value of 0 and an invalid request therefore give the same answer.",
                Edges03GetSetTest::storedZero);
        check.sentence("This call changes nothing.", Edges03GetSetTest::changesNothing);
        check.end();
    }

    /** No set is 0, so that an answer of 0 tells an invalid request. */
    private static HtnPlanner withMethods(int count) {
        HtnPlanner x = new HtnPlanner(2, 2);
        for (int m = 0; m < count; m++) {
            x.addMethod(16);
        }
        for (int which = 0; which <= 6; which++) {
            for (int index = 0; index < 32; index++) {
                x.setSet(which, index, -1L - 100L * which - index);
            }
        }
        return x;
    }

    private static void sameConditions() {
        for (int methods : new int[] {0, 1, 2, 15, 16, 17, 31, 32}) {
            HtnPlanner x = withMethods(methods);
            for (int which = -2; which <= 9; which++) {
                for (int index = -2; index <= 34; index++) {
                    boolean answered = x.getSet(which, index) != 0L;
                    check.due("getSet(" + which + ", " + index + ") answers a set, with " + methods + " methods",
                            answered, x.setSet(which, index, x.getSet(which, index)));
                }
            }
        }
    }

    private static void firstAndLast() {
        HtnPlanner x = withMethods(32);
        for (int which = 0; which <= 6; which++) {
            int last = which <= 3 ? 15 : which <= 5 ? 31 : 0;
            check.due("getSet(" + which + ", 0)", x.getSet(which, 0), -1L - 100L * which);
            check.due("getSet(" + which + ", " + last + ")", x.getSet(which, last), -1L - 100L * which - last);
        }
        for (HtnPlanner y : Samples.inEveryStatus().values()) {
            check.due("getSet(6, 0)", y.getSet(HtnPlanner.SET_INIT, 0), 1L | Long.MIN_VALUE);
        }
    }

    private static void zero(HtnPlanner x, int which, int... indices) {
        for (int index : indices) {
            check.due("getSet(" + which + ", " + index + ")", x.getSet(which, index), 0L);
        }
    }

    private static void invalidIsZero() {
        for (int methods : new int[] {0, 1, 15, 16, 17, 32}) {
            HtnPlanner x = withMethods(methods);
            for (int which : Edges.outside(0, 6)) {
                zero(x, which, 0, 1, 15, 16, 31, 32, -1);
                zero(x, which, Edges.outside(0, 31));
            }
            for (int which = 0; which <= 3; which++) {
                zero(x, which, Edges.outside(0, 15));
            }
            zero(x, HtnPlanner.SET_M_PRE, Edges.outside(0, methods - 1));
            zero(x, HtnPlanner.SET_M_NEG, Edges.outside(0, methods - 1));
            zero(x, HtnPlanner.SET_INIT, Edges.outside(0, 0));
        }
    }

    private static void storedZero() {
        HtnPlanner x = withMethods(1);
        for (int which = 0; which <= 6; which++) {
            x.setSet(which, 0, 0L);
            check.due("getSet(" + which + ", 0)", x.getSet(which, 0), x.getSet(which, -1));
            check.due("getSet(" + which + ", 0)", x.getSet(which, 0), 0L);
        }
    }

    private static void changesNothing() {
        Samples.inEveryStatus().forEach((name, x) -> check.leavesAll("getSet, " + name, x, () -> {
            for (int which = -1; which <= 7; which++) {
                for (int index = -1; index <= 33; index++) {
                    x.getSet(which, index);
                }
            }
        }));
    }
}
