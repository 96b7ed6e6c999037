/** Promise 6, getMethodEntry: a test for each sentence with an edge. */
public final class Edges06GetMethodEntryTest {
    private static final Check check = new Check();

    public static void main(String[] args) {
        check.sentence("If `m` is not in 0..methodCount-1, it answers -1.",
                Edges06GetMethodEntryTest::methodOutside);
        check.sentence("If k == 0, it answers the method's task.", Edges06GetMethodEntryTest::taskOfEach);
        check.sentence("If k is in 1..n, where n is the method's subtask count, it answers subtask k-1, in the order "
                + "the subtasks were appended.", Edges06GetMethodEntryTest::everySubtask);
        check.sentence("For any other k (negative, or greater than n), it answers -1.",
                Edges06GetMethodEntryTest::entryOutside);
        check.sentence("This call changes nothing.", Edges06GetMethodEntryTest::changesNothing);
        check.end();
    }

    private static void missing(HtnPlanner x, int m, int k) {
        check.due("getMethodEntry(" + m + ", " + k + ")", x.getMethodEntry(m, k), -1L);
    }

    private static void methodOutside() {
        HtnPlanner x = new HtnPlanner(1, 1);
        for (int count = 0; count <= 32; count++) {
            for (int m : Edges.outside(0, count - 1)) {
                for (int k = -1; k <= 5; k++) {
                    missing(x, m, k);
                }
            }
            Samples.method(x, 31, 1, 2, 3, 4);
        }
    }

    private static void taskOfEach() {
        HtnPlanner x = Samples.full();
        for (int m = 0; m < 32; m++) {
            check.due("getMethodEntry(" + m + ", 0)", x.getMethodEntry(m, 0), 16 + m % 16);
        }
        HtnPlanner y = new HtnPlanner(1, 1);
        y.addMethod(31);
        check.due("getMethodEntry(0, 0) of an empty method", y.getMethodEntry(0, 0), 31L);
    }

    /** Methods of 0 to 4 subtasks in turn, filled across each other. */
    private static HtnPlanner ofEverySize() {
        HtnPlanner x = new HtnPlanner(1, 1);
        for (int m = 0; m < 32; m++) {
            x.addMethod(16);
        }
        for (int k = 1; k <= 4; k++) {
            for (int m = 0; m < 32; m++) {
                if (k <= m % 5) {
                    x.addSubtask(m, (m + 5 * k) % 32);
                }
            }
        }
        return x;
    }

    private static void everySubtask() {
        HtnPlanner x = ofEverySize();
        for (int m = 0; m < 32; m++) {
            for (int k = 1; k <= m % 5; k++) {
                check.due("getMethodEntry(" + m + ", " + k + ")", x.getMethodEntry(m, k), (m + 5 * k) % 32);
            }
        }
    }

    private static void entryOutside() {
        HtnPlanner x = ofEverySize();
        for (int m = 0; m < 32; m++) {
            for (int k : Edges.outside(0, m % 5)) {
                missing(x, m, k);
            }
        }
    }

    private static void changesNothing() {
        Samples.inEveryStatus().forEach((name, x) -> check.leavesAll("getMethodEntry, " + name, x, () -> {
            for (int m = -1; m <= 4; m++) {
                for (int k = -1; k <= 5; k++) {
                    x.getMethodEntry(m, k);
                }
            }
        }));
    }
}
