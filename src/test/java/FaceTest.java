import java.io.IOException;
import java.lang.reflect.Constructor;
import java.lang.reflect.Field;
import java.lang.reflect.Method;
import java.lang.reflect.Modifier;
import java.nio.file.Files;
import java.nio.file.Path;
import java.util.Arrays;
import java.util.Map;
import java.util.Set;
import java.util.TreeMap;
import java.util.TreeSet;
import java.util.regex.Matcher;
import java.util.regex.Pattern;
import java.util.stream.Collectors;

/** The public face of the document, and those rules of LANGUAGE.md that can be read off the class. */
public final class FaceTest {
    private static final Checks CHECKS = new Checks();
    private static final String SOURCE = "src/main/java/CutDetectMember.java";

    private static final Set<String> CONSTANTS = Set.of(
            "SLOTS=32", "ALERT=1", "VOTE=2", "PREPARE=3", "PROMISE=4", "ACCEPT=5", "ACCEPTED=6", "WELCOME=7",
            "F_KIND=0", "F_SRC=1", "F_CFG=2", "F_X=3", "F_Y=4", "F_Z=5", "F_DEST=6",
            "ST_NONE=0", "ST_MEMBER=1", "ST_OUT=2", "ST_CRASHED=3",
            "P_PROMISED=0", "P_ACCRND=1", "P_ACCVAL=2", "P_CRND=3", "P_PHASE=4", "P_LRND=5", "P_LCOUNT=6",
            "P_PCOUNT=7");
    private static final Set<String> METHODS = Set.of(
            "boolean observe/2", "boolean crash/1", "boolean fallback/1", "boolean deliver/2", "boolean drop/2",
            "int msg/2", "int status/1", "int configOf/1", "int membersOf/1", "int lastCut/1",
            "int reportCount/2", "int proposalOf/1", "int voteOf/2", "int observer/3", "int paxos/2");
    private static final Set<Class<?>> FIELD_TYPES = Set.of(
            int.class, long.class, short.class, byte.class, char.class, boolean.class,
            int[].class, long[].class, short[].class, byte[].class, char[].class, boolean[].class);
    private static final String BANNED = "import|package|float|double|String|Math|Integer|System|Arrays|Object|null"
            + "|throw|throws|try|catch|finally|synchronized|assert|instanceof|interface|enum|record|var|@\\w+";

    public static void main(String[] args) throws ReflectiveOperationException, IOException {
        publicFace();
        hiddenMembers();
        source();
        CHECKS.end();
    }

    private static void publicFace() throws ReflectiveOperationException {
        Class<?> type = CutDetectMember.class;
        CHECKS.due("public and final", type.getModifiers(), Modifier.PUBLIC | Modifier.FINAL);
        CHECKS.due("own class alone", type.getSuperclass() == Object.class && type.getInterfaces().length == 0, true);
        Set<String> constants = new TreeSet<>();
        for (Field field : type.getDeclaredFields()) {
            if (!Modifier.isPrivate(field.getModifiers())) {
                int modifiers = Modifier.PUBLIC | Modifier.STATIC | Modifier.FINAL;
                CHECKS.due("modifiers of " + field, field.getModifiers(), modifiers);
                CHECKS.due("int " + field, field.getType() == int.class, true);
                constants.add(field.getName() + "=" + field.getInt(null));
            }
        }
        CHECKS.due("constants " + constants, constants.equals(CONSTANTS), true);
        Set<String> methods = new TreeSet<>();
        for (Method method : type.getDeclaredMethods()) {
            if (!Modifier.isPrivate(method.getModifiers())) {
                CHECKS.due("modifiers of " + method, method.getModifiers(), Modifier.PUBLIC);
                methods.add(method.getReturnType() + " " + method.getName() + "/" + method.getParameterCount());
                CHECKS.due("ints alone: " + method, onlyInts(method.getParameterTypes()), true);
            }
        }
        CHECKS.due("methods " + methods, methods.equals(METHODS), true);
        Constructor<?>[] constructors = type.getDeclaredConstructors();
        CHECKS.due("constructors", constructors.length, 1);
        CHECKS.due("constructor is public", constructors[0].getModifiers(), Modifier.PUBLIC);
        CHECKS.due("parameters", constructors[0].getParameterCount(), 4);
        CHECKS.due("ints alone", onlyInts(constructors[0].getParameterTypes()), true);
    }

    private static boolean onlyInts(Class<?>[] types) {
        return Arrays.stream(types).allMatch(type -> type == int.class);
    }

    private static void hiddenMembers() {
        Class<?> type = CutDetectMember.class;
        CHECKS.due("nested classes", type.getDeclaredClasses().length, 0);
        int fields = 0;
        for (Field field : type.getDeclaredFields()) {
            boolean constant = Modifier.isStatic(field.getModifiers());
            fields += constant ? 0 : 1;
            CHECKS.due("type of " + field, FIELD_TYPES.contains(field.getType()), true);
            boolean number = field.getType() == int.class || field.getType() == long.class;
            CHECKS.due("static " + field, !constant || number && Modifier.isFinal(field.getModifiers()), true);
        }
        CHECKS.due("fields " + fields, fields <= 40, true);
        Set<String> open = METHODS.stream().map(m -> m.replaceAll(".* |/.*", "")).collect(Collectors.toSet());
        for (Method method : type.getDeclaredMethods()) {
            CHECKS.due("parameters of " + method, method.getParameterCount() <= 7, true);
            CHECKS.due("answer of " + method, !method.getReturnType().isArray(), true);
            boolean hidden = Modifier.isPrivate(method.getModifiers());
            CHECKS.due("name of " + method, hidden && open.contains(method.getName()), false);
        }
    }

    private static void source() throws IOException {
        String text = Files.readString(Path.of(SOURCE));
        String code = text.replaceAll("(?s)/\\*.*?\\*/", "").replaceAll("//[^\\n]*", "");
        Matcher banned = Pattern.compile("\\b(" + BANNED + ")\\b|->|::|\"").matcher(code);
        CHECKS.due("a word outside LANGUAGE.md", banned.find(), false);
        Matcher made = Pattern.compile("\\bnew\\b").matcher(code);
        String field = "(?m)^    private final \\w+\\[\\] \\w+ = new \\w+\\[[A-Z_]+\\];$";
        Matcher inField = Pattern.compile(field).matcher(code);
        CHECKS.due("arrays are made in fields alone", made.results().count(), inField.results().count());
        Map<String, String> bodies = bodies(code);
        CHECKS.due("all methods are found", bodies.size(), CutDetectMember.class.getDeclaredMethods().length + 1);
        for (String name : bodies.keySet()) {
            CHECKS.due("short: " + name, bodies.get(name).lines().count() <= 60, true);
            CHECKS.due("calls of " + name + " at most six deep", depth(bodies, name, 0) <= 6, true);
            CHECKS.due("a call inside a call in " + name, nestedCall(bodies, name), false);
        }
    }

    /** The bodies of the constructor and of the methods, by name. */
    private static Map<String, String> bodies(String code) {
        Map<String, String> bodies = new TreeMap<>();
        Matcher method = Pattern.compile("(?ms)^    p[^=;\\n]*?(\\w+)\\([^)]*\\) \\{\\n(.*?)^    \\}$").matcher(code);
        while (method.find()) {
            bodies.put(method.group(1), method.group(2));
        }
        return bodies;
    }

    private static Matcher calls(Map<String, String> bodies, String text) {
        return Pattern.compile("\\b(" + String.join("|", bodies.keySet()) + ")\\(").matcher(text);
    }

    /** How many methods stand on one another when this one is called; far too many if it comes back to itself. */
    private static int depth(Map<String, String> bodies, String name, int above) {
        int deepest = 0;
        Matcher call = calls(bodies, bodies.get(name));
        while (above < 20 && call.find()) {
            deepest = Math.max(deepest, depth(bodies, call.group(1), above + 1));
        }
        return deepest + 1;
    }

    private static boolean nestedCall(Map<String, String> bodies, String name) {
        String body = bodies.get(name);
        Matcher call = calls(bodies, body);
        while (call.find()) {
            int end = call.end();
            for (int open = 1; open > 0; end++) {
                open += body.charAt(end) == '(' ? 1 : body.charAt(end) == ')' ? -1 : 0;
            }
            if (calls(bodies, body.substring(call.end(), end)).find()) {
                return true;
            }
        }
        return false;
    }
}
