/** Promise 3: getSet. */
public final class Promise03GetSetTest {
    private static final Check check = new Check();

    public static void main(String[] args) {
        HtnPlanner x = new HtnPlanner(2, 2);
        for (int m = 0; m < 20; m++) {
            x.addMethod(16);
        }
        fillEverySet(x);
        x.plan();
        String before = Check.outcome(x);
        everySetReadsBack(x);
        invalidRequestsAnswerZero(x);
        check.same("the outcome after getSet", Check.outcome(x), before);
        everySetReadsBack(x);
        check.end();
    }

    private static int sizeOf(int which) {
        return which <= 3 ? 16 : which <= 5 ? 20 : 1;
    }

    /** Another value for every set, negative for every second one. */
    private static long valueOf(int which, int index) {
        long value = 1000L * (which + 1) + index;
        return index % 2 == 0 ? ~value : value;
    }

    private static void fillEverySet(HtnPlanner x) {
        for (int which = 0; which <= 6; which++) {
            for (int index = 0; index < sizeOf(which); index++) {
                x.setSet(which, index, valueOf(which, index));
            }
        }
    }

    private static void everySetReadsBack(HtnPlanner x) {
        for (int which = 0; which <= 6; which++) {
            for (int index = 0; index < sizeOf(which); index++) {
                check.due("getSet(" + which + ", " + index + ")",
                        x.getSet(which, index), valueOf(which, index));
            }
        }
    }

    private static void invalidRequestsAnswerZero(HtnPlanner x) {
        int[] codes = {Integer.MIN_VALUE, -2, -1, 0, 1, 2, 3, 4, 5, 6, 7, 8, Integer.MAX_VALUE};
        int[] indices = {Integer.MIN_VALUE, -1, 0, 1, 15, 16, 19, 20, 31, 32, Integer.MAX_VALUE};
        for (int which : codes) {
            for (int index : indices) {
                boolean valid = which >= 0 && which <= 6 && index >= 0 && index < sizeOf(which);
                if (!valid) {
                    check.due("getSet(" + which + ", " + index + ")", x.getSet(which, index), 0L);
                }
            }
        }
    }
}
