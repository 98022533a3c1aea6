import java.io.File;
import java.io.PrintWriter;
import java.io.StringWriter;
import java.nio.file.Files;
import java.nio.file.Path;
import java.util.ArrayList;
import java.util.HashMap;
import java.util.List;
import java.util.Map;
import java.util.Set;
import java.util.TreeSet;
import java.util.regex.Matcher;
import java.util.regex.Pattern;
import java.util.spi.ToolProvider;

/** The rules of ../shared/LANGUAGE.md that can be seen from the source and from what javac makes of it. */
public final class LanguageRules {
    static final Path SOURCE = Path.of("src/main/java/NineWheel.java");
    static final Pattern CLASS = Pattern.compile("^(?:public )?(?:final )?class (\\S+) \\{$");
    static final Pattern METHOD = Pattern.compile("^  (?:\\S.* )?([\\w$]+)\\((.*)\\);$");
    static final Pattern CALL = Pattern.compile("// (?:Interface)?Method (\\S+):\\((.*?)\\)");
    static final Pattern KIND = Pattern.compile("\\[*(?:[BCDFIJSZ]|L[^;]+;)");
    static final Set<String> LIBRARY = Set.of("java/lang/Object.\"<init>\"/0", "java/lang/String.length/0",
            "java/lang/String.charAt/1", "java/lang/Integer.bitCount/1", "java/lang/Integer.signum/1",
            "java/lang/Math.max/2", "java/lang/Math.abs/1", "java/lang/System.arraycopy/5", "java/util/Arrays.fill/2");
    static int wrong = 0;

    static void ask(boolean holds, String what) {
        if (holds) return;
        wrong++;
        System.out.println("LANGUAGE.md is broken: " + what);
    }

    static void words(String source) {
        String code = source.replaceAll("(?s)/\\*.*?\\*/|//[^\\n]*", "").replaceAll("\"[^\"\\n]*\"", "\"\"");
        String[] none = {"throw", "throws", "try", "catch", "assert", "synchronized", "instanceof", "package", "record"};
        for (String word : none) ask(!Pattern.compile("\\b" + word + "\\b").matcher(code).find(), word);
        ask(!code.contains("->") && !code.contains("::"), "a lambda or method reference");
        ask(source.chars().allMatch(c -> c < 128), "a sign above 127");
        Matcher imports = Pattern.compile("import ([\\w.]+);").matcher(code);
        while (imports.find()) ask(imports.group(1).equals("java.util.Arrays"), "import of " + imports.group(1));
        Matcher nested = Pattern.compile("(.*)\\bclass (\\w+)").matcher(code);
        int classes = 0;
        while (nested.find()) {
            classes++;
            boolean fit = nested.group(1).contains("public final") || nested.group(1).contains("private static final");
            ask(fit, "class " + nested.group(2));
        }
        ask(classes <= 12, classes + " classes");
    }

    /** What javap tells: for each method its calls. */
    static Map<String, Set<String>> callsOf(String listing) {
        Map<String, Set<String>> all = new HashMap<>();
        String cls = "", method = null;
        for (String line : listing.split("\n")) {
            Matcher m = CLASS.matcher(line);
            if (m.matches()) {
                cls = m.group(1);
                continue;
            }
            m = METHOD.matcher(line);
            if (m.matches() && line.charAt(2) != ' ') {
                int n = m.group(2).isEmpty() ? 0 : m.group(2).split(",").length;
                String name = m.group(1).equals(cls) ? "\"<init>\"" : m.group(1);
                ask(n <= 7, name + " takes " + n + " parameters");
                method = cls + "." + name + "/" + n;
                all.put(method, new TreeSet<>());
                continue;
            }
            m = CALL.matcher(line);
            if (!m.find() || method == null) continue;
            int n = 0;
            Matcher kinds = KIND.matcher(m.group(2));
            while (kinds.find()) n++;
            String callee = m.group(1).contains(".") ? m.group(1) : cls + "." + m.group(1);
            all.get(method).add(callee + "/" + n);
        }
        return all;
    }

    static int depth(String method, Map<String, Set<String>> calls, List<String> open) {
        if (open.contains(method)) {
            ask(false, "recursion of " + method);
            return 0;
        }
        if (!calls.containsKey(method)) {
            ask(LIBRARY.contains(method), "a call of " + method);
            return 0;
        }
        List<String> now = new ArrayList<>(open);
        now.add(method);
        int deepest = 0;
        for (String callee : calls.get(method)) deepest = Math.max(deepest, depth(callee, calls, now));
        return deepest + 1;
    }

    static void names(String source) {
        Set<String> open = new TreeSet<>();
        Matcher m = Pattern.compile("(?m)^    public (?:int|long) (\\w+)\\(").matcher(source);
        while (m.find()) open.add(m.group(1));
        ask(open.size() == 29, open.size() + " public methods");
        m = Pattern.compile("(?m)^(?:    private|        )[\\w\\[\\] ]* (\\w+)\\([^)]*\\) \\{$").matcher(source);
        while (m.find()) ask(!open.contains(m.group(1)), "a hidden method has a public name: " + m.group(1));
    }

    static void lengths(String source) {
        int start = 0, n = 0;
        for (String line : source.split("\n")) {
            n++;
            if (line.matches("^(    |        )\\S.*\\) \\{$")) start = n;
            if (line.matches("^(    |        )\\}$") && start > 0) {
                ask(n - start < 60, "a method of " + (n - start) + " lines at " + start);
                start = 0;
            }
        }
    }

    public static void main(String[] args) throws Exception {
        String source = Files.readString(SOURCE);
        words(source);
        names(source);
        lengths(source);
        List<String> call = new ArrayList<>(List.of("-p", "-c"));
        File[] all = new File(System.getProperty("java.class.path")).listFiles();
        for (File f : all) {
            if (f.getName().matches("NineWheel(\\$\\w+)?\\.class")) call.add(f.getPath());
        }
        StringWriter out = new StringWriter();
        ToolProvider javap = ToolProvider.findFirst("javap").orElseThrow();
        javap.run(new PrintWriter(out), new PrintWriter(System.err, true), call.toArray(new String[0]));
        Map<String, Set<String>> calls = callsOf(out.toString().replaceAll("(?m)^(public |private |static |final )*class ", "class "));
        ask(calls.size() > 60, "javap told of " + calls.size() + " methods only");
        for (String method : calls.keySet()) {
            int depth = depth(method, calls, new ArrayList<>());
            ask(depth <= 8, method + " goes " + depth + " calls deep");
        }
        System.out.println(calls.size() + " methods looked at, " + wrong + " breaches of LANGUAGE.md");
        if (wrong != 0) System.exit(1);
    }
}
