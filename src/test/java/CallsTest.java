import java.io.PrintWriter;
import java.io.StringWriter;
import java.nio.file.Files;
import java.nio.file.Path;
import java.util.ArrayList;
import java.util.HashMap;
import java.util.List;
import java.util.Map;
import java.util.Optional;
import java.util.Set;
import java.util.TreeMap;
import java.util.TreeSet;
import java.util.regex.Matcher;
import java.util.regex.Pattern;
import java.util.spi.ToolProvider;
import java.util.stream.Stream;

/**
 * What can be looked at of LANGUAGE.md in the compiled class: what of the library it uses (rule 4), that it catches
 * nothing (6), what calls itself (8), how deep calls go (11), and where it makes something (12).
 */
public final class CallsTest {
    private static final Pattern CLASS = Pattern.compile("^[\\w ]*\\bclass ([\\w.$]+).*\\{$");
    private static final Pattern METHOD = Pattern.compile("^  [\\w$.\\[\\] ]*?([\\w$.]+)\\((.*)\\).*;$");
    private static final Pattern CALLED =
            Pattern.compile("invoke\\w+ .*// Method (?:([\\w/$]+)\\.)?\"?([\\w<>]+)\"?:(\\([^)]*\\)).*$");
    private static final Pattern MADE = Pattern.compile(": (new|newarray|anewarray|multianewarray) .*");
    private static final List<String> LIBRARY = List.of("java/lang/Object.<init>", "java/util/Arrays.fill",
            "java/util/Arrays.copyOf", "java/lang/IndexOutOfBoundsException.<init>",
            "java/lang/IllegalArgumentException.<init>", "java/lang/IllegalStateException.<init>");
    private static final int MAX_DEEP = 8;

    /** Of each method those of the file that it calls. */
    private static final Map<String, Set<String>> CALLS = new TreeMap<>();
    private static final Map<String, Integer> DEEP = new HashMap<>();

    private CallsTest() {
    }

    public static void main(String[] args) throws Exception {
        Optional<ToolProvider> javap = ToolProvider.findFirst("javap");
        if (javap.isEmpty()) {
            System.out.println("there is no javap: nothing was looked at");
            return;
        }
        Check.about("the compiled class");
        read(disassembled(javap.get()));
        Check.same("methods that were found: " + CALLS.size(), CALLS.size() > 150, true);
        for (Map.Entry<String, Set<String>> method : CALLS.entrySet()) {
            for (String called : method.getValue()) {
                Check.same(method.getKey() + " calls " + called, CALLS.containsKey(called), true);
            }
        }
        for (String method : CALLS.keySet()) {
            boolean isRecursive = reached(method).contains(method);
            Check.same(method + " calls itself", isRecursive && !method.startsWith("UnwindTower$Compiler.lay"), false);
            Check.same(method + " goes deep: " + deep(method), deep(method) <= MAX_DEEP, true);
        }
        Check.end();
    }

    private static List<String> disassembled(ToolProvider javap) throws Exception {
        Path folder = Path.of(CallsTest.class.getProtectionDomain().getCodeSource().getLocation().toURI());
        List<String> asked = new ArrayList<>(List.of("-p", "-c"));
        try (Stream<Path> files = Files.list(folder)) {
            files.map(Path::toString).filter(name -> name.matches(".*UnwindTower(\\$\\w+)?\\.class")).forEach(asked::add);
        }
        StringWriter text = new StringWriter();
        int failed = javap.run(new PrintWriter(text), new PrintWriter(System.out), asked.toArray(new String[0]));
        Check.same("javap", failed, 0);
        return text.toString().lines().toList();
    }

    private static void read(List<String> lines) {
        String owner = "";
        String method = "";
        for (String line : lines) {
            Matcher ofClass = CLASS.matcher(line);
            Matcher ofMethod = METHOD.matcher(line);
            if (ofClass.matches()) {
                owner = ofClass.group(1);
            } else if (ofMethod.matches()) {
                String name = ofMethod.group(1).equals(owner) ? "<init>" : ofMethod.group(1);
                int many = ofMethod.group(2).isEmpty() ? 0 : ofMethod.group(2).split(",").length;
                method = owner + "." + name + "/" + many;
                CALLS.put(method, new TreeSet<>());
            } else {
                readInstruction(line, owner, method);
            }
        }
    }

    private static void readInstruction(String line, String owner, String method) {
        Matcher called = CALLED.matcher(line);
        if (called.find()) {
            String of = called.group(1) == null ? owner : called.group(1);
            if (of.startsWith("java/")) {
                Check.same(method + " uses " + of + "." + called.group(2), LIBRARY.contains(of + "." + called.group(2)), true);
            } else {
                CALLS.get(method).add(of + "." + called.group(2) + "/" + countOf(called.group(3)));
            }
        }
        Check.same(method + ": " + line, line.contains("invokedynamic") || line.contains("invokeinterface")
                || line.contains("Exception table") || line.contains("putstatic"), false);
        boolean isMade = MADE.matcher(line).find() && !line.contains("// class java/lang/I");
        Check.same(method + " makes " + line.trim(), isMade && !method.contains(".<init>/"), false);
    }

    private static int countOf(String descriptor) {
        int count = 0;
        Matcher types = Pattern.compile("\\[*(L[^;]+;|[A-Z])").matcher(descriptor);
        while (types.find()) {
            count++;
        }
        return count;
    }

    private static Set<String> reached(String method) {
        Set<String> reached = new TreeSet<>();
        List<String> open = new ArrayList<>(CALLS.get(method));
        while (!open.isEmpty()) {
            String next = open.remove(open.size() - 1);
            if (reached.add(next)) {
                open.addAll(CALLS.getOrDefault(next, Set.of()));
            }
        }
        return reached;
    }

    /** How deep the calls of a method go, itself among them; those that call one another count as one. */
    private static int deep(String method) {
        Integer known = DEEP.get(method);
        if (known != null) {
            return known;
        }
        Set<String> reached = reached(method);
        int below = 0;
        for (String called : reached) {
            if (!reached(called).contains(method)) {
                below = Math.max(below, deep(called));
            }
        }
        DEEP.put(method, below + 1);
        return below + 1;
    }
}
