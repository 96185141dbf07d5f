import java.io.IOException;
import java.lang.reflect.Field;
import java.lang.reflect.Method;
import java.lang.reflect.Modifier;
import java.nio.file.Files;
import java.nio.file.Path;
import java.util.ArrayList;
import java.util.List;
import java.util.Map;
import java.util.Set;
import java.util.TreeMap;
import java.util.TreeSet;
import java.util.regex.Matcher;
import java.util.regex.Pattern;

/** Those rules of LANGUAGE.md that can be read off the class or its source, however that is laid out. */
public final class LanguageTest {
    private static final Checks CHECKS = new Checks();
    private static final String SOURCE = "src/main/java/CutDetectMember.java";
    private static final String CONSTRUCTOR = "CutDetectMember";

    private static final Set<Class<?>> NUMBERS = Set.of(int.class, long.class);
    private static final Set<Class<?>> FIELD_TYPES = Set.of(
            int.class, long.class, short.class, byte.class, char.class, boolean.class,
            int[].class, long[].class, short[].class, byte[].class, char[].class, boolean[].class);
    private static final Set<String> BANNED = Set.of(
            "import", "package", "float", "double", "String", "Math", "Integer", "System", "Arrays", "Object",
            "null", "throw", "throws", "try", "catch", "finally", "synchronized", "assert", "instanceof",
            "interface", "enum", "record", "var", "->", "::", "\"", "@");

    private record Token(String text, int line) {
    }

    public static void main(String[] args) throws IOException {
        fields();
        methods();
        List<Token> tokens = tokens(Files.readString(Path.of(SOURCE)));
        for (Token token : tokens) {
            CHECKS.due(token.text + " in line " + token.line, BANNED.contains(token.text), false);
        }
        Map<String, List<Token>> bodies = bodies(tokens);
        arraysAreMadeAtTheStart(tokens, bodies);
        for (String name : bodies.keySet()) {
            body(bodies, name);
        }
        CHECKS.end();
    }

    /** Rules 2, 5 and 10. */
    private static void fields() {
        int fields = 0;
        for (Field field : CutDetectMember.class.getDeclaredFields()) {
            boolean constant = Modifier.isStatic(field.getModifiers());
            fields += constant ? 0 : 1;
            CHECKS.due("type of " + field, FIELD_TYPES.contains(field.getType()), true);
            boolean number = NUMBERS.contains(field.getType()) && Modifier.isFinal(field.getModifiers());
            CHECKS.due("static " + field, !constant || number, true);
        }
        CHECKS.due("fields " + fields, fields <= 40, true);
    }

    /** Rules 1, 4 and 10. */
    private static void methods() {
        CHECKS.due("nested classes", CutDetectMember.class.getDeclaredClasses().length, 0);
        Set<String> open = new TreeSet<>();
        for (Method method : CutDetectMember.class.getMethods()) {
            open.add(method.getName());
        }
        for (Method method : CutDetectMember.class.getDeclaredMethods()) {
            CHECKS.due("parameters of " + method, method.getParameterCount() <= 7, true);
            CHECKS.due("answer of " + method, method.getReturnType().isArray(), false);
            boolean hidden = Modifier.isPrivate(method.getModifiers());
            CHECKS.due("name of " + method, hidden && open.contains(method.getName()), false);
        }
    }

    private static List<Token> tokens(String source) {
        List<Token> tokens = new ArrayList<>();
        Matcher next = Pattern.compile("(?s)/\\*.*?\\*/|//[^\\n]*|\\n|\\w+|->|::|\\S").matcher(source);
        int line = 1;
        while (next.find()) {
            String text = next.group();
            if (!text.startsWith("/*") && !text.startsWith("//") && !text.isBlank()) {
                tokens.add(new Token(text, line));
            }
            line += (int) text.chars().filter(c -> c == '\n').count();
        }
        return tokens;
    }

    /** The index of the bracket that closes the one at this index. */
    private static int closing(List<Token> tokens, int at) {
        int open = 0;
        for (int i = at; i < tokens.size(); i++) {
            String text = tokens.get(i).text;
            open += "([{".contains(text) ? 1 : ")]}".contains(text) ? -1 : 0;
            if (open == 0) {
                return i;
            }
        }
        throw new IllegalStateException("a bracket of line " + tokens.get(at).line + " stays open");
    }

    /** The bodies of the constructor and of the methods, by name, each with its outer braces. */
    private static Map<String, List<Token>> bodies(List<Token> tokens) {
        Map<String, List<Token>> bodies = new TreeMap<>();
        int at = tokens.indexOf(tokens.stream().filter(t -> t.text.equals("{")).findFirst().get()) + 1;
        String name = "";
        for (; at < tokens.size(); at++) {
            String text = tokens.get(at).text;
            if (text.equals("(")) {
                name = tokens.get(at - 1).text;
                at = closing(tokens, at);
            } else if (text.equals("{")) {
                int end = closing(tokens, at);
                CHECKS.due("short: " + name, tokens.get(end).line - tokens.get(at).line < 60, true);
                bodies.computeIfAbsent(name, n -> new ArrayList<>()).addAll(tokens.subList(at, end + 1));
                at = end;
            }
        }
        Set<String> names = new TreeSet<>(Set.of(CONSTRUCTOR));
        for (Method method : CutDetectMember.class.getDeclaredMethods()) {
            names.add(method.getName());
        }
        CHECKS.due("all methods are found: " + bodies.keySet(), bodies.keySet().equals(names), true);
        return bodies;
    }

    /** Rule 4: none is made by a method, nor in a loop or behind a condition of the constructor. */
    private static void arraysAreMadeAtTheStart(List<Token> tokens, Map<String, List<Token>> bodies) {
        List<Token> inBlocks = new ArrayList<>();
        bodies.forEach((name, body) -> inBlocks.addAll(name.equals(CONSTRUCTOR) ? innerBlocks(body) : body));
        for (Token token : inBlocks) {
            CHECKS.due(token.text + " in line " + token.line, token.text.equals("new"), false);
        }
        for (int i = 0; i < tokens.size(); i++) {
            if (tokens.get(i).text.equals("new")) {
                String made = "an array is made in line " + tokens.get(i).line;
                CHECKS.due(made, tokens.get(i + 2).text.equals("["), true);
                CHECKS.due(made + ", of a constant length", tokens.get(i + 4).text.equals("]"), true);
            }
        }
    }

    private static List<Token> innerBlocks(List<Token> body) {
        List<Token> inner = new ArrayList<>();
        for (int i = 1; i < body.size(); i++) {
            if (body.get(i).text.equals("{")) {
                int end = closing(body, i);
                inner.addAll(body.subList(i, end));
                i = end;
            }
        }
        return inner;
    }

    /** Rules 8 and 10. */
    private static void body(Map<String, List<Token>> bodies, String name) {
        List<Token> body = bodies.get(name);
        CHECKS.due("calls of " + name + " at most six deep", depth(bodies, name, 1) <= 6, true);
        for (int at : calls(bodies, body)) {
            List<Token> arguments = body.subList(at + 1, closing(body, at + 1));
            String what = "calls among the arguments in line " + body.get(at).line;
            CHECKS.due(what, calls(bodies, arguments).size(), 0);
        }
    }

    /** Where in these tokens a method of the class is called. */
    private static List<Integer> calls(Map<String, List<Token>> bodies, List<Token> tokens) {
        List<Integer> calls = new ArrayList<>();
        for (int i = 0; i + 1 < tokens.size(); i++) {
            if (bodies.containsKey(tokens.get(i).text) && tokens.get(i + 1).text.equals("(")) {
                calls.add(i);
            }
        }
        return calls;
    }

    /** How many methods stand on one another when this one is called as the nth; looks no further than too deep. */
    private static int depth(Map<String, List<Token>> bodies, String name, int nth) {
        int deepest = nth;
        if (nth <= 6) {
            for (int at : calls(bodies, bodies.get(name))) {
                deepest = Math.max(deepest, depth(bodies, bodies.get(name).get(at).text, nth + 1));
            }
        }
        return deepest;
    }
}
