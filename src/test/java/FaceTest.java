import java.lang.reflect.Constructor;
import java.lang.reflect.Field;
import java.lang.reflect.Method;
import java.lang.reflect.Modifier;
import java.util.Set;
import java.util.TreeSet;

/** The public face: the document's members and no others, and what LANGUAGE.md says of fields. */
public final class FaceTest {
    private static final Check check = new Check();

    public static void main(String[] args) throws IllegalAccessException {
        check.same("the class", Modifier.toString(HtnPlanner.class.getModifiers()), "public final");
        check.same("what it extends", HtnPlanner.class.getSuperclass().getName(), "java.lang.Object");
        check.due("nested classes", HtnPlanner.class.getDeclaredClasses().length, 0L);
        constants();
        constructors();
        methods();
        fields();
        check.end();
    }

    private static void constants() throws IllegalAccessException {
        Set<String> got = new TreeSet<>();
        for (Field field : HtnPlanner.class.getDeclaredFields()) {
            if (!Modifier.isPrivate(field.getModifiers())) {
                String kind = Modifier.toString(field.getModifiers()) + " " + field.getType();
                check.same(field.getName(), kind, "public static final int");
                got.add(field.getName() + "=" + field.getInt(null));
            }
        }
        Set<String> due = Set.of("NUM_OPS=16", "NUM_TASKS=32", "MAX_METHODS=32", "MAX_SUBTASKS=4",
                "MAX_INITIAL=8", "MAX_PLAN=32", "SET_OP_PRE=0", "SET_OP_NEG=1", "SET_OP_ADD=2",
                "SET_OP_DEL=3", "SET_M_PRE=4", "SET_M_NEG=5", "SET_INIT=6", "STATUS_NONE=0",
                "PLAN_FOUND=1", "PLAN_FAILED=2", "PLAN_BUDGET=3", "EXEC_DONE=-1", "EXEC_FAIL=-2",
                "INFO_STATUS=0", "INFO_PLAN_LENGTH=1", "INFO_DECOMP_LENGTH=2", "INFO_EXPANSIONS=3",
                "INFO_EXEC_POS=4", "INFO_METHOD_COUNT=5", "INFO_INITIAL_COUNT=6",
                "INFO_DEPTH_LIMIT=7", "INFO_BUDGET=8");
        check.same("the constants", got.toString(), new TreeSet<>(due).toString());
    }

    private static void constructors() {
        Constructor<?>[] constructors = HtnPlanner.class.getDeclaredConstructors();
        check.due("constructors", constructors.length, 1L);
        check.same("the constructor", constructors[0].toString(), "public HtnPlanner(int,int)");
    }

    private static void methods() {
        Set<String> got = new TreeSet<>();
        Set<String> publicNames = new TreeSet<>();
        Set<String> privateNames = new TreeSet<>();
        for (Method method : HtnPlanner.class.getDeclaredMethods()) {
            if (Modifier.isPrivate(method.getModifiers())) {
                privateNames.add(method.getName());
            } else {
                publicNames.add(method.getName());
                got.add(method.toString().replace("HtnPlanner.", ""));
            }
        }
        Set<String> due = Set.of("public boolean setSet(int,int,long)",
                "public long getSet(int,int)", "public int addMethod(int)",
                "public boolean addSubtask(int,int)", "public int getMethodEntry(int,int)",
                "public boolean addInitialTask(int)", "public void clearInitialTasks()",
                "public int getInitialTask(int)", "public int plan()", "public int getPlanStep(int)",
                "public int getDecompMethod(int)", "public void resetExecutor()",
                "public int executeStep()", "public long getExecState()", "public int getInfo(int)");
        check.same("the methods", got.toString(), new TreeSet<>(due).toString());
        privateNames.retainAll(publicNames);
        check.same("names both private and public", privateNames.toString(), "[]");
    }

    private static void fields() {
        int count = 0;
        for (Field field : HtnPlanner.class.getDeclaredFields()) {
            Class<?> type = field.getType();
            if (Modifier.isStatic(field.getModifiers())) {
                boolean constant = Modifier.isFinal(field.getModifiers())
                        && (type == int.class || type == long.class);
                check.due("the constant " + field.getName(), constant, true);
            } else {
                count++;
                Class<?> single = type.isArray() ? type.getComponentType() : type;
                check.due("the field " + field.getName() + " is of whole numbers",
                        single.isPrimitive() && single != float.class && single != double.class, true);
            }
        }
        check.due("at most forty fields", count <= 40, true);
    }
}
