import java.io.IOException;
import java.lang.reflect.Array;
import java.lang.reflect.Field;
import java.lang.reflect.Method;
import java.lang.reflect.Modifier;
import java.nio.file.Files;
import java.nio.file.Path;
import java.util.ArrayList;
import java.util.HashMap;
import java.util.IdentityHashMap;
import java.util.List;
import java.util.Map;
import java.util.Set;
import java.util.TreeMap;
import java.util.TreeSet;
import java.util.regex.Matcher;
import java.util.regex.Pattern;

/** What can be seen of LANGUAGE.md in the source and in the compiled class; run from the project's directory. */
public final class LanguageTest {
    private static final String FACE = "set(int,int):boolean home(int,int):boolean take(int,int,int,int):int free(int):boolean "
        + "read(int,int,int):int write(int,int,int,int):int pin(int,int):int unpin(int,int):boolean come(int,int):int "
        + "byTurns(int):int press(int):int gather(int):int go(int):boolean giveUp(int):boolean tick(int):int "
        + "frame(int,int):int block(int,int):int span(int,int):int task(int,int):int zone(int,int):int loose(int,int):int "
        + "place(int,int,int):int hole(int):int keeps(int,int,int):int holders(int):int pressed(int):int at(int,int):int "
        + "movable():int would(int,int):int easiest(int):int givenBack():int log(int,int):int count(int):int "
        + "image(boolean):boolean look(int):int";
    private static final String[] FORBIDDEN = {"throw", "throws", "try", "catch", "synchronized", "assert", "package",
        "native", "volatile", "transient", "Object", "Thread", "Random", "protected"};
    /** The room has 600,000 objects and 7.3 million cells: a thousand objects of the class must fit into it. */
    private static final int MOST_OBJECTS = 600;
    private static final int MOST_CELLS = 7300;
    private static int wrong = 0;

    private static void rule(int number, boolean kept, String what) {
        if (!kept) {
            wrong++;
            System.out.println("rule " + number + ": " + what);
        }
    }

    private static String signature(Method m) {
        List<String> types = new ArrayList<>();
        for (Class<?> p : m.getParameterTypes()) types.add(p.getSimpleName());
        return m.getName() + "(" + String.join(",", types) + "):" + m.getReturnType().getSimpleName();
    }

    private static void face() {
        Set<String> due = new TreeSet<>(List.of(FACE.split(" ")));
        Set<String> there = new TreeSet<>();
        Set<String> names = new TreeSet<>();
        for (Method m : SpansAway.class.getDeclaredMethods()) {
            if (Modifier.isPublic(m.getModifiers())) {
                there.add(signature(m));
                names.add(m.getName());
            } else {
                rule(1, Modifier.isPrivate(m.getModifiers()), m + " is neither public nor private");
                rule(1, !(" " + FACE).contains(" " + m.getName() + "("), m + " bears a public name");
            }
        }
        rule(1, due.equals(there), "the face is " + there);
        rule(1, Modifier.isFinal(SpansAway.class.getModifiers()), "the class is not final");
        rule(1, SpansAway.class.getDeclaredConstructors().length == 1, "more than one constructor");
        for (Field f : SpansAway.class.getDeclaredFields()) {
            rule(1, Modifier.isPrivate(f.getModifiers()) || f.getName().equals("NONE"), f + " is not private");
        }
        int classes = 1;
        for (Class<?> inside : SpansAway.class.getDeclaredClasses()) {
            classes++;
            rule(1, Modifier.isStatic(inside.getModifiers()), inside + " is not static");
            inside(inside, names);
        }
        rule(11, classes <= 12, classes + " classes");
    }

    private static void inside(Class<?> inside, Set<String> names) {
        int fields = 0;
        for (Field f : inside.getDeclaredFields()) {
            if (Modifier.isStatic(f.getModifiers())) {
                rule(5, Modifier.isFinal(f.getModifiers()), f + " is not final");
            } else {
                fields++;
            }
        }
        rule(11, fields <= 20, inside + " has " + fields + " fields");
        for (Method m : inside.getDeclaredMethods()) {
            rule(1, !names.contains(m.getName()), m + " bears a public name");
            rule(11, m.getParameterCount() <= 7, m + " takes too many");
        }
    }

    private static void source() throws IOException {
        String all = Files.readString(Path.of("src/main/java/SpansAway.java"));
        String code = all.replaceAll("(?s)/\\*.*?\\*/", "").replaceAll("//[^\n]*", "");
        for (String word : FORBIDDEN) {
            rule(6, !Pattern.compile("\\b" + word + "\\b").matcher(code).find(), word + " stands in the code");
        }
        rule(2, !code.contains("->") && !code.contains("::"), "a lambda or a method reference");
        rule(5, !Pattern.compile("static\\s*\\{").matcher(code).find(), "a static block");
        Matcher imports = Pattern.compile("import ([^;]+);").matcher(code);
        while (imports.find()) rule(4, imports.group(1).equals("java.util.Arrays"), "import " + imports.group(1));
        Matcher library = Pattern.compile("\\b(Integer|Math|Arrays|System)\\.(\\w+)").matcher(code);
        Set<String> known = Set.of("bitCount", "numberOfTrailingZeros", "min", "max", "fill", "arraycopy");
        while (library.find()) rule(4, known.contains(library.group(2)), library.group());
        for (String line : code.split("\n")) {
            boolean row = line.matches("\\s+(private )?final [\\w\\[\\]]+ \\w+ = new (\\w+\\(\\)|int\\[\\w+\\]);");
            rule(12, !line.matches(".*\\bnew\\b.*") || row, "made by a call, or handed something: " + line.trim());
        }
        methods(bodies(code));
    }

    /** The class of what stands before a dot: fields bear the names of their classes, but for those of Memory. */
    private static String receiver(String name) {
        if (Set.of("now", "kept", "memory", "trial", "then", "from").contains(name)) return "Memory";
        return Character.toUpperCase(name.charAt(0)) + name.substring(1);
    }

    /** Methods as "Class.name", each with its body, told apart by the indentation. */
    private static Map<String, String> bodies(String code) {
        Map<String, String> bodies = new TreeMap<>();
        String inClass = "SpansAway";
        String method = null;
        String end = "";
        for (String line : code.split("\n")) {
            Matcher inside = Pattern.compile("^    private static final class (\\w+) \\{$").matcher(line);
            Matcher head = Pattern.compile("^( {4}| {8})(?=\\S)[\\w\\[\\] ]*?(\\w+)\\([^;]*\\) \\{$").matcher(line);
            if (inside.matches()) {
                inClass = inside.group(1);
            } else if (method == null && head.matches()) {
                method = (head.group(1).length() == 4 ? "SpansAway" : inClass) + "." + head.group(2);
                end = head.group(1) + "}";
                bodies.put(method, "");
            } else if (method != null && line.equals(end)) {
                method = null;
            } else if (method != null) {
                bodies.put(method, bodies.get(method) + line + "\n");
            }
        }
        return bodies;
    }

    private static void methods(Map<String, String> bodies) {
        Map<String, Integer> known = new HashMap<>();
        int most = 0;
        for (String method : bodies.keySet()) {
            int lines = bodies.get(method).split("\n").length;
            rule(11, lines <= 60, method + " has " + lines + " lines");
            most = Math.max(most, depthOf(method, bodies, known));
        }
        rule(11, bodies.size() > 100, "only " + bodies.size() + " methods were found");
        rule(11, most <= 8, "calls go " + most + " deep");
        System.out.println(bodies.size() + " methods, calls go " + most + " deep");
    }

    private static int depthOf(String method, Map<String, String> bodies, Map<String, Integer> known) {
        if (known.containsKey(method)) {
            rule(8, known.get(method) > 0, method + " calls itself");
            return known.get(method);
        }
        known.put(method, 0);
        String own = method.substring(0, method.indexOf('.'));
        int deepest = 0;
        Matcher call = Pattern.compile("(?:(\\w+)\\.)?(\\w+)\\(").matcher(bodies.get(method));
        while (call.find()) {
            String in = call.group(1) == null ? own : receiver(call.group(1));
            for (String callee : new String[] {in + "." + call.group(2), "SpansAway." + call.group(2)}) {
                if (bodies.containsKey(callee)) {
                    deepest = Math.max(deepest, depthOf(callee, bodies, known));
                    break;
                }
            }
        }
        known.put(method, deepest + 1);
        return deepest + 1;
    }

    /** No call makes an object, so that what a new one holds is all that a run makes. */
    private static void room() throws IllegalAccessException {
        Map<Object, Boolean> met = new IdentityHashMap<>();
        int cells = cells(new SpansAway(), met);
        rule(12, met.size() > 10 && met.size() <= MOST_OBJECTS, met.size() + " objects and arrays");
        rule(12, cells > 1000 && cells <= MOST_CELLS, cells + " fields and elements");
        System.out.println("an object is " + met.size() + " objects and arrays, " + cells + " fields and elements");
    }

    private static int cells(Object one, Map<Object, Boolean> met) throws IllegalAccessException {
        if (one == null || met.put(one, true) != null) return 0;
        if (one.getClass().isArray()) return Array.getLength(one);
        int cells = 0;
        for (Field f : one.getClass().getDeclaredFields()) {
            if (Modifier.isStatic(f.getModifiers())) continue;
            cells++;
            f.setAccessible(true);
            if (!f.getType().isPrimitive()) cells += cells(f.get(one), met);
        }
        return cells;
    }

    public static void main(String[] args) throws IOException, IllegalAccessException {
        face();
        source();
        room();
        System.out.println("LanguageTest: " + wrong + " breaches");
        if (wrong != 0) System.exit(1);
    }
}
