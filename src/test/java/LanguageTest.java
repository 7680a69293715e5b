import java.io.PrintWriter;
import java.io.StringWriter;
import java.lang.management.ManagementFactory;
import java.lang.reflect.Field;
import java.lang.reflect.Method;
import java.lang.reflect.Modifier;
import java.nio.file.Files;
import java.nio.file.Path;
import java.util.Map;
import java.util.TreeMap;
import java.util.TreeSet;
import java.util.regex.Matcher;
import java.util.regex.Pattern;
import java.util.spi.ToolProvider;

/** What of LANGUAGE.md can be seen from outside: the face, words that are not allowed, what a run makes. */
public final class LanguageTest {
    private static final String FACE = "begin child chance close end entry feed fault fits handle has least letter loads look make"
        + " mount needs node octet open path quit remove rename result room see seed status step tells trace trees trim undo"
        + " unmount victim walker where";
    private static final String[] FORBIDDEN = {"throw", "throws", "try", "catch", "synchronized", "assert", "protected", "volatile",
        "System.out", "HashMap", "->", "::", "hashCode", "toString", "Exact", "nanoTime", "currentTimeMillis", "Random", "Thread"};
    /* What rule 4 lists, as the compiled class calls it. */
    private static final Pattern LIBRARY = Pattern.compile("java/lang/Object\\.<init>|java/lang/System\\.arraycopy"
        + "|java/util/Arrays\\.(copyOf|copyOfRange|fill)|java/lang/(Math|Integer|Long)\\.(?!\\w*Exact)\\w+"
        + "|java/lang/String\\.(<init>|length|charAt|isEmpty|equals|indexOf|substring|toCharArray)"
        + "|java/lang/StringBuilder\\.(<init>|append|charAt|setCharAt|setLength|deleteCharAt|reverse|length|toString)"
        + "|java/util/(ArrayList|List)\\.(<init>|add|get|set|remove|size|isEmpty|clear|of)");
    private static final int DEEPEST = 8;
    private static int wrong = 0;

    private static void check(boolean fine, String what) {
        if (!fine) {
            wrong++;
            System.out.println(what);
        }
    }

    public static void main(String[] args) throws Exception {
        face();
        nested();
        source();
        calls();
        roomOfARun();
        System.out.println(wrong == 0 ? "the language is kept" : wrong + " rules are broken");
        if (wrong != 0) {
            System.exit(1);
        }
    }

    private static void face() {
        TreeSet<String> due = new TreeSet<>();
        for (String name : FACE.split(" ")) due.add(name);
        TreeSet<String> met = new TreeSet<>();
        for (Method m : NameKeeper.class.getDeclaredMethods()) {
            if (!Modifier.isPrivate(m.getModifiers())) {
                check(Modifier.isPublic(m.getModifiers()), m + " is neither public nor private");
                check(met.add(m.getName()), m + " is there twice");
            } else {
                check(!due.contains(m.getName()), m + " bears a public name");
            }
        }
        check(due.equals(met), "the face is " + met);
        for (Field f : NameKeeper.class.getDeclaredFields()) {
            boolean constant = f.getName().equals("NONE") || f.getName().equals("NOTHING") || f.getName().equals("BLOCKED");
            check(constant == Modifier.isPublic(f.getModifiers()), f + " is not as visible as it is due");
            check(constant || Modifier.isPrivate(f.getModifiers()), f + " is visible");
        }
        check(NameKeeper.class.getDeclaredConstructors().length == 1, "one constructor is due");
        check(Modifier.isFinal(NameKeeper.class.getModifiers()), "the class is final");
    }

    private static void nested() {
        Class<?>[] classes = NameKeeper.class.getDeclaredClasses();
        check(classes.length < 12, classes.length + " classes inside");
        for (Class<?> c : classes) {
            check(Modifier.isStatic(c.getModifiers()), c + " is not static");
            int fields = 0;
            for (Field f : c.getDeclaredFields()) {
                check(!Modifier.isStatic(f.getModifiers()) || Modifier.isFinal(f.getModifiers()), f + " is static, not final");
                fields += Modifier.isStatic(f.getModifiers()) ? 0 : 1;
            }
            check(fields <= 20, c + " has " + fields + " fields");
            for (Method m : c.getDeclaredMethods()) check(m.getParameterCount() <= 7, m + " takes too many");
        }
    }

    private static void source() throws Exception {
        String text = Files.readString(Path.of("src/main/java/NameKeeper.java"));
        String code = text.replaceAll("(?s)/\\*.*?\\*/", "").replaceAll("//[^\n]*", "");
        for (String word : FORBIDDEN) {
            String edge = Character.isLetter(word.charAt(0)) ? "\\b" : "";
            check(!Pattern.compile(edge + Pattern.quote(word) + edge).matcher(code).find(), "there is a " + word);
        }
        Matcher imports = Pattern.compile("import ([\\w.]+);").matcher(code);
        while (imports.find()) check(imports.group(1).equals("java.util.Arrays"), "import of " + imports.group(1));
        int start = -1;
        String[] lines = text.split("\n");
        for (int k = 0; k < lines.length; k++) {
            if (lines[k].matches(" {4,8}[\\w<].*\\) \\{")) start = k;
            if (lines[k].matches(" {4,8}\\}") && start >= 0) {
                check(k - start < 60, "a method of " + (k - start) + " lines: " + lines[start]);
                start = -1;
            }
        }
    }

    /** By the compiled class: which methods call which, how deep they go, what of the library they call. */
    private static void calls() {
        ToolProvider javap = ToolProvider.findFirst("javap").orElse(null);
        if (javap == null) {
            return;
        }
        TreeMap<String, TreeSet<String>> graph = new TreeMap<>();
        addCalls(javap, NameKeeper.class, graph);
        for (Class<?> c : NameKeeper.class.getDeclaredClasses()) addCalls(javap, c, graph);
        check(graph.containsKey("NameKeeper.feed"), "the compiled class can't be read");
        TreeMap<String, Integer> depths = new TreeMap<>();
        for (Map.Entry<String, TreeSet<String>> method : graph.entrySet()) {
            int depth = depthOf(method.getKey(), graph, depths);
            check(depth <= DEEPEST, method.getKey() + " goes " + depth + " calls deep");
            for (String called : method.getValue()) {
                check(graph.containsKey(called) || LIBRARY.matcher(called).matches(), method.getKey() + " calls " + called);
            }
        }
    }

    private static void addCalls(ToolProvider javap, Class<?> type, TreeMap<String, TreeSet<String>> graph) {
        StringWriter text = new StringWriter();
        PrintWriter out = new PrintWriter(text);
        javap.run(out, out, "-c", "-p", "-cp", System.getProperty("java.class.path"), type.getName());
        Pattern head = Pattern.compile("  (?:\\w[^(]* )?([\\w$]+)\\(.*\\);");
        Pattern call = Pattern.compile("// (?:Interface)?Method (?:([\\w/$]+)\\.)?\"?([\\w<>]+)\"?:");
        TreeSet<String> within = new TreeSet<>();
        for (String line : text.toString().split("\\R")) {
            Matcher begins = head.matcher(line);
            Matcher calls = call.matcher(line);
            if (begins.matches()) {
                String name = begins.group(1).equals(type.getName()) ? "<init>" : begins.group(1);
                within = graph.computeIfAbsent(type.getName() + "." + name, key -> new TreeSet<>());
            } else if (calls.find()) {
                within.add((calls.group(1) == null ? type.getName() : calls.group(1)) + "." + calls.group(2));
            }
        }
    }

    /** How many calls stand open at the most from a method on; the class has no recursion, and one that came in would show here. */
    private static int depthOf(String method, TreeMap<String, TreeSet<String>> graph, TreeMap<String, Integer> depths) {
        if (depths.containsKey(method)) {
            check(depths.get(method) > 0, method + " calls itself");
            return depths.get(method);
        }
        depths.put(method, 0);
        int deepest = 0;
        for (String called : graph.get(method)) {
            if (graph.containsKey(called)) deepest = Math.max(deepest, depthOf(called, graph, depths));
        }
        depths.put(method, deepest + 1);
        return deepest + 1;
    }

    /** A run's calls make no more than the constructor and the first twenty acts do. */
    private static void roomOfARun() {
        java.lang.management.ThreadMXBean bean = ManagementFactory.getThreadMXBean();
        if (!(bean instanceof com.sun.management.ThreadMXBean)) {
            return;
        }
        com.sun.management.ThreadMXBean counter = (com.sun.management.ThreadMXBean) bean;
        long id = Thread.currentThread().getId();
        dearRun();
        long before = counter.getThreadAllocatedBytes(id);
        dearRun();
        long bytes = counter.getThreadAllocatedBytes(id) - before;
        check(bytes < 400_000, "a run makes " + bytes + " bytes");
    }

    private static void dearRun() {
        NameKeeper x = new NameKeeper();
        Script.put(x, "a{b{c{d{e}}}}f g h;i;j;");
        x.trees();
        Script.put(x, "/a/b/c/d/e /f /g /h /a/b /q /r /s /a/b/c/d/e /f /g /h");
        x.trace();
        for (int k = 0; k < 50; k++) {
            x.chance(40);
            x.tells(1);
            x.fits(3);
            x.least(9);
            x.victim(-1);
            Script.put(x, "/a/b/c/d/e/..");
            x.begin();
            x.step(0);
        }
    }
}
