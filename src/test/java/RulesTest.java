import java.io.IOException;
import java.io.PrintWriter;
import java.io.StringWriter;
import java.lang.reflect.Array;
import java.lang.reflect.Field;
import java.lang.reflect.Modifier;
import java.nio.file.Files;
import java.nio.file.Path;
import java.util.ArrayDeque;
import java.util.ArrayList;
import java.util.Collections;
import java.util.Deque;
import java.util.IdentityHashMap;
import java.util.List;
import java.util.Map;
import java.util.Set;
import java.util.TreeMap;
import java.util.TreeSet;
import java.util.regex.Matcher;
import java.util.regex.Pattern;
import java.util.spi.ToolProvider;

/** What ../shared/LANGUAGE.md asks, as far as source, compiled code and a look at an object can show it. */
public final class RulesTest {
    private static final Path SOURCE = Path.of("src/main/java/VotedWater.java");
    private static final Path CLASSES = Path.of("build/main");
    private static final Set<String> LIBRARY = Set.of(
        "java/lang/Object.\"<init>\"", "java/lang/Math.max", "java/lang/Math.min", "java/lang/Math.abs",
        "java/lang/Integer.compare", "java/lang/String.indexOf", "java/lang/System.arraycopy", "java/util/Arrays.fill");
    private static final Set<String> FORBIDDEN_CODE = Set.of(
        "athrow", "invokedynamic", "monitorenter", "checkcast", "frem", "drem", "jsr");

    private static int wrong;

    private final Map<String, Set<String>> calls = new TreeMap<>();
    private final Map<String, Integer> depths = new TreeMap<>();

    public static void main(String[] args) throws IOException {
        source();
        RulesTest test = new RulesTest();
        test.compiled();
        test.deepest();
        members();
        room();
        System.out.println(wrong == 0 ? "the rules hold" : wrong + " breaches of the rules");
        if (wrong > 0) {
            System.exit(1);
        }
    }

    private static void rule(boolean holds, String what) {
        if (!holds) {
            wrong++;
            System.out.println(what);
        }
    }

    private static void source() throws IOException {
        List<String> lines = Files.readAllLines(SOURCE);
        Pattern words = Pattern.compile("\\b(throw|throws|try|catch|finally|synchronized|assert|package|instanceof|var"
            + "|volatile|transient|native|float|double|record|enum|Object|equals|hashCode|toString)\\b|->|::|\\?\\s*>");
        int begin = 0;
        int classes = 0;
        for (int i = 0; i < lines.size(); i++) {
            String line = lines.get(i).replaceAll("//.*|^\\s*/?\\*.*|/\\*\\*.*\\*/", "");
            rule(!words.matcher(line).find(), "line " + (i + 1) + " has what the rules forbid: " + line);
            rule(line.chars().allMatch(c -> c > 0 && c < 128), "line " + (i + 1) + " has signs above 127");
            rule(!line.startsWith("import") || line.equals("import java.util.Arrays;"), (i + 1) + ": " + line);
            classes += line.matches(".*\\b(class|interface) \\w+.*\\{") ? 1 : 0;
            int indent = line.length() - line.stripLeading().length();
            boolean member = indent == 4 || indent == 8;
            if (member && line.endsWith("{") && line.contains("(") && !line.matches("\\s*(if|for|while|switch).*")) {
                begin = i;
            }
            if (member && line.strip().equals("}")) {
                rule(i - begin < 60, "line " + (begin + 1) + ": a method of more than 60 lines");
                begin = i;
            }
        }
        rule(classes <= 12, classes + " classes");
    }

    /** Reads the compiled code: who calls whom, what of the library, and where objects are made. */
    private void compiled() throws IOException {
        List<String> args = new ArrayList<>(List.of("-c", "-p"));
        try (var files = Files.list(CLASSES)) {
            files.map(Path::toString).sorted().forEach(args::add);
        }
        StringWriter text = new StringWriter();
        PrintWriter out = new PrintWriter(text);
        ToolProvider.findFirst("javap").orElseThrow().run(out, out, args.toArray(new String[0]));
        Pattern code = Pattern.compile("\\s+\\d+: (\\w+)(.*// (?:Interface)?Method ([^:]+):(\\S+))?.*");
        String type = "";
        String method = "";
        for (String line : text.toString().split("\n")) {
            Matcher m = code.matcher(line);
            if (line.contains("class VotedWater") && line.endsWith("{")) {
                type = line.replaceAll(".*class (\\S+).*", "$1");
            } else if (line.startsWith("  ") && line.endsWith(");") && !line.startsWith("   ")) {
                method = method(type, line);
                calls.put(method, new TreeSet<>());
            } else if (m.matches()) {
                instruction(type, method, m.group(1), m.group(3), m.group(4));
            }
        }
        rule(calls.size() > 100, "only " + calls.size() + " methods were found");
    }

    private static String method(String type, String header) {
        String params = header.replaceAll(".*\\((.*)\\);", "$1");
        int n = params.isEmpty() ? 0 : params.split(",").length;
        String name = header.replaceAll("\\(.*", "").replaceAll(".*[ ]", "");
        rule(n <= 7, type + "." + name + " takes " + n);
        return type + "." + (name.equals(type) ? "\"<init>\"" : name) + "/" + n;
    }

    private void instruction(String type, String method, String name, String called, String signature) {
        rule(!FORBIDDEN_CODE.contains(name), method + " has " + name);
        boolean makes = name.equals("new") || name.endsWith("newarray");
        rule(!makes || method.contains("<init>"), method + " makes objects");
        if (called == null) {
            return;
        }
        String whole = called.contains(".") ? called : type + "." + called;
        if (whole.startsWith("java/")) {
            rule(LIBRARY.contains(whole), method + " calls " + whole);
        } else {
            calls.get(method).add(whole.replace('/', '.') + "/" + parameters(signature));
        }
    }

    private static int parameters(String signature) {
        String params = signature.substring(1, signature.indexOf(')'));
        return params.replaceAll("\\[*(L[^;]*;|[IJZCBSFD])", "x").length();
    }

    /** Calls that are no recursion go at most eight deep; what calls itself around counts once. */
    private void deepest() {
        Map<String, Set<String>> reached = new TreeMap<>();
        for (String method : calls.keySet()) {
            reached.put(method, reach(method));
        }
        int most = 0;
        String which = "";
        for (String method : calls.keySet()) {
            int depth = depth(method, reached);
            if (depth > most) {
                most = depth;
                which = method;
            }
        }
        rule(most <= 8, which + " goes " + most + " deep");
        System.out.println("calls go " + most + " deep");
        rule(most > 4, "calls seem to go but " + most + " deep");
        Set<String> recursive = new TreeSet<>();
        for (String method : calls.keySet()) {
            if (reached.get(method).contains(method)) {
                recursive.add(method.replaceAll("/.*", ""));
            }
        }
        rule(recursive.equals(Set.of("VotedWater$Outlook.tryRows", "VotedWater$Reader.readRow",
            "VotedWater$Reader.readSingle", "VotedWater$Speaker.speak")), "recursions: " + recursive);
    }

    private Set<String> reach(String method) {
        Set<String> found = new TreeSet<>();
        Deque<String> open = new ArrayDeque<>(calls.get(method));
        while (!open.isEmpty()) {
            String next = open.pop();
            rule(calls.containsKey(next), next + " is called, but was not found");
            if (found.add(next) && calls.containsKey(next)) {
                open.addAll(calls.get(next));
            }
        }
        return found;
    }

    private int depth(String method, Map<String, Set<String>> reached) {
        Integer known = depths.get(method);
        if (known != null) {
            return known;
        }
        int deepest = 0;
        for (String next : reached.get(method)) {
            boolean around = reached.get(next).contains(method);
            if (!around) {
                deepest = Math.max(deepest, depth(next, reached));
            }
        }
        // A ring of methods that call one another: one more for each but the first.
        int ring = 1;
        for (String next : reached.get(method)) {
            ring += !next.equals(method) && reached.get(next).contains(method) ? 1 : 0;
        }
        depths.put(method, deepest + ring);
        return deepest + ring;
    }

    private static void members() {
        Set<String> face = new TreeSet<>();
        for (var method : VotedWater.class.getDeclaredMethods()) {
            if (Modifier.isPublic(method.getModifiers())) {
                face.add(method.getName());
            } else {
                rule(Modifier.isPrivate(method.getModifiers()), method + " is neither public nor private");
            }
        }
        rule(face.equals(Set.of(Face.CALLS)), "the face is " + face);
        List<Class<?>> types = new ArrayList<>(List.of(VotedWater.class.getDeclaredClasses()));
        for (Class<?> type : types) {
            rule(Modifier.isStatic(type.getModifiers()) && !Modifier.isPublic(type.getModifiers())
                && !Modifier.isProtected(type.getModifiers()), type + " is not as a class inside must be");
            for (var method : type.getDeclaredMethods()) {
                rule(!face.contains(method.getName()), method + " bears the name of a public one");
            }
        }
        types.add(VotedWater.class);
        for (Class<?> type : types) {
            int fields = 0;
            for (Field field : type.getDeclaredFields()) {
                boolean fixed = Modifier.isStatic(field.getModifiers());
                rule(!fixed || Modifier.isFinal(field.getModifiers()), field + " is static, but not final");
                rule(!fixed || field.getType() == int.class, field + " is no constant of int");
                rule(type != VotedWater.class || Modifier.isPrivate(field.getModifiers()), field + " is not private");
                fields += fixed ? 0 : 1;
            }
            rule(fields <= 20, type + " has " + fields + " fields");
        }
    }

    /** An object is made once; what it is made of must be small beside the room of a run. */
    private static void room() {
        Set<Object> seen = Collections.newSetFromMap(new IdentityHashMap<>());
        Deque<Object> open = new ArrayDeque<>(List.of(new VotedWater()));
        long elements = 0;
        while (!open.isEmpty()) {
            Object next = open.pop();
            if (!seen.add(next)) {
                continue;
            }
            if (next.getClass().isArray()) {
                elements += Array.getLength(next);
                for (int i = 0; i < Array.getLength(next) && !next.getClass().getComponentType().isPrimitive(); i++) {
                    open.add(Array.get(next, i));
                }
            } else if (!(next instanceof String)) {
                elements += look(next, open);
            }
        }
        System.out.println("an object is " + seen.size() + " objects and arrays, " + elements + " fields and elements");
        rule(seen.size() < 1000 && elements < 10000, "an object takes too much room");
    }

    private static int look(Object next, Deque<Object> open) {
        int fields = 0;
        for (Field field : next.getClass().getDeclaredFields()) {
            if (!Modifier.isStatic(field.getModifiers())) {
                fields++;
                field.setAccessible(true);
                try {
                    if (!field.getType().isPrimitive() && field.get(next) != null) {
                        open.add(field.get(next));
                    }
                } catch (IllegalAccessException e) {
                    rule(false, field + " can't be read");
                }
            }
        }
        return fields;
    }
}
