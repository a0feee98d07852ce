import java.lang.reflect.Constructor;
import java.lang.reflect.Field;
import java.lang.reflect.Method;
import java.lang.reflect.Modifier;
import java.util.Arrays;
import java.util.List;
import java.util.Set;
import java.util.TreeSet;

/** The class has the constants, the constructor and the methods of the document, and no others. */
public final class FaceTest {
    private static final Due DUE = new Due();
    private static final List<String> CONSTANTS = Arrays.asList(
            "NO_SUCH_NODE=-1", "NO_SUCH_TASK=-2", "NO_SUCH_ATTEMPT=-3", "BAD_VALUE=-4", "FULL=-5",
            "NONE=-6", "WAITING=0", "RUNNING=1", "DONE=2", "COMMITTED=2", "KILLED=3", "LOST=4",
            "NO_SPECULATION=0", "NAIVE=1", "LATE=2");
    private static final List<String> METHODS = Arrays.asList(
            "addNode/2", "setSpeed/2", "failNode/1", "repairNode/1", "addTask/1", "setPolicy/1",
            "setLimits/2", "setThresholds/2", "tick/1", "time/0", "taskState/1",
            "committedAttempt/1", "finishTime/1", "makespan/0", "attemptCount/0", "attemptTask/1",
            "attemptNode/1", "attemptState/1", "isSpeculative/1", "progress/1", "remainingTime/1",
            "nodeScore/1", "isSlowNode/1", "runningOn/1", "straggler/0", "runningSpeculative/0",
            "wastedWork/0", "simulatedMakespan/1");

    public static void main(String[] args) throws IllegalAccessException {
        DUE.at("face");
        Class<?> face = SpeculativeScheduler.class;
        DUE.is("public", Modifier.isPublic(face.getModifiers()) ? 1 : 0, 1);
        DUE.is("final", Modifier.isFinal(face.getModifiers()) ? 1 : 0, 1);
        same("constants", constants(face), new TreeSet<>(CONSTANTS));
        same("methods", methods(face), new TreeSet<>(METHODS));
        Constructor<?>[] made = face.getDeclaredConstructors();
        DUE.is("number of constructors", made.length, 1);
        DUE.is("parameters of the constructor", made[0].getParameterCount(), 0);
        DUE.is("public constructor", Modifier.isPublic(made[0].getModifiers()) ? 1 : 0, 1);
        for (Class<?> inside : face.getDeclaredClasses()) {
            DUE.is(inside + " is static", Modifier.isStatic(inside.getModifiers()) ? 1 : 0, 1);
            DUE.is(inside + " is public", Modifier.isPublic(inside.getModifiers()) ? 1 : 0, 0);
        }
        DUE.end();
    }

    private static Set<String> constants(Class<?> face) throws IllegalAccessException {
        Set<String> found = new TreeSet<>();
        for (Field field : face.getDeclaredFields()) {
            if (Modifier.isPrivate(field.getModifiers())) continue;
            boolean constant = Modifier.isPublic(field.getModifiers())
                    && Modifier.isStatic(field.getModifiers())
                    && Modifier.isFinal(field.getModifiers()) && field.getType() == int.class;
            found.add(constant ? field.getName() + "=" + field.getInt(null) : "not constant: " + field);
        }
        return found;
    }

    private static Set<String> methods(Class<?> face) {
        Set<String> found = new TreeSet<>();
        for (Method method : face.getDeclaredMethods()) {
            if (Modifier.isPrivate(method.getModifiers())) continue;
            boolean plain = Modifier.isPublic(method.getModifiers())
                    && !Modifier.isStatic(method.getModifiers()) && method.getReturnType() == int.class;
            for (Class<?> type : method.getParameterTypes()) plain &= type == int.class;
            found.add(plain ? method.getName() + "/" + method.getParameterCount() : "not due: " + method);
        }
        return found;
    }

    private static void same(String what, Set<String> got, Set<String> want) {
        for (String name : got) DUE.is(what + ": " + name + " is due", want.contains(name) ? 1 : 0, 1);
        for (String name : want) DUE.is(what + ": " + name + " is there", got.contains(name) ? 1 : 0, 1);
    }
}
