import java.lang.reflect.Constructor;
import java.lang.reflect.Field;
import java.lang.reflect.Method;
import java.lang.reflect.Modifier;
import java.util.Arrays;
import java.util.Set;
import java.util.TreeSet;

/** The public face of the document, and that nothing else can be reached from outside. */
public final class FaceTest {
    private static final Checks CHECKS = new Checks();
    private static final Class<?> TYPE = CutDetectMember.class;

    private static final Set<String> CONSTANTS = Set.of(
            "SLOTS=32", "ALERT=1", "VOTE=2", "PREPARE=3", "PROMISE=4", "ACCEPT=5", "ACCEPTED=6", "WELCOME=7",
            "F_KIND=0", "F_SRC=1", "F_CFG=2", "F_X=3", "F_Y=4", "F_Z=5", "F_DEST=6",
            "ST_NONE=0", "ST_MEMBER=1", "ST_OUT=2", "ST_CRASHED=3",
            "P_PROMISED=0", "P_ACCRND=1", "P_ACCVAL=2", "P_CRND=3", "P_PHASE=4", "P_LRND=5", "P_LCOUNT=6",
            "P_PCOUNT=7");
    private static final Set<String> METHODS = Set.of(
            "boolean observe/2", "boolean crash/1", "boolean fallback/1", "boolean deliver/2", "boolean drop/2",
            "int msg/2", "int status/1", "int configOf/1", "int membersOf/1", "int lastCut/1",
            "int reportCount/2", "int proposalOf/1", "int voteOf/2", "int observer/3", "int paxos/2");

    public static void main(String[] args) throws ReflectiveOperationException {
        theClass();
        theConstants();
        theMethods();
        theConstructor();
        CHECKS.end();
    }

    private static void theClass() {
        CHECKS.due("public and final", TYPE.getModifiers(), Modifier.PUBLIC | Modifier.FINAL);
        CHECKS.due("own class alone", TYPE.getSuperclass() == Object.class && TYPE.getInterfaces().length == 0, true);
    }

    private static void theConstants() throws ReflectiveOperationException {
        Set<String> constants = new TreeSet<>();
        for (Field field : TYPE.getDeclaredFields()) {
            if (!Modifier.isPrivate(field.getModifiers())) {
                int modifiers = Modifier.PUBLIC | Modifier.STATIC | Modifier.FINAL;
                CHECKS.due("modifiers of " + field, field.getModifiers(), modifiers);
                CHECKS.due("int " + field, field.getType() == int.class, true);
                constants.add(field.getName() + "=" + field.getInt(null));
            }
        }
        CHECKS.due("constants " + constants, constants.equals(CONSTANTS), true);
    }

    private static void theMethods() {
        Set<String> methods = new TreeSet<>();
        for (Method method : TYPE.getDeclaredMethods()) {
            if (!Modifier.isPrivate(method.getModifiers())) {
                CHECKS.due("modifiers of " + method, method.getModifiers(), Modifier.PUBLIC);
                methods.add(method.getReturnType() + " " + method.getName() + "/" + method.getParameterCount());
                CHECKS.due("ints alone: " + method, onlyInts(method.getParameterTypes()), true);
            }
        }
        CHECKS.due("methods " + methods, methods.equals(METHODS), true);
    }

    private static void theConstructor() {
        Constructor<?>[] constructors = TYPE.getDeclaredConstructors();
        CHECKS.due("constructors", constructors.length, 1);
        CHECKS.due("constructor is public", constructors[0].getModifiers(), Modifier.PUBLIC);
        CHECKS.due("parameters", constructors[0].getParameterCount(), 4);
        CHECKS.due("ints alone", onlyInts(constructors[0].getParameterTypes()), true);
    }

    private static boolean onlyInts(Class<?>[] types) {
        return Arrays.stream(types).allMatch(type -> type == int.class);
    }
}
