import java.lang.reflect.InvocationTargetException;
import java.lang.reflect.Method;
import java.lang.reflect.Modifier;
import java.nio.file.Files;
import java.nio.file.Path;
import java.util.HashMap;
import java.util.Map;
import java.util.Set;
import java.util.TreeSet;
import java.util.regex.Matcher;
import java.util.regex.Pattern;

/** README.md: its examples, one run of calls on one object, and that it tells each call with all that it refuses. */
public final class ReadmeRuns {
    static final Pattern BLOCK = Pattern.compile("(?ms)^```java\\n(.*?)^```$");
    static final Pattern CALL = Pattern.compile("x\\.(\\w+)\\((.*)\\); +// (-?\\d+|[A-Z]+)(?:: .*)?");
    static final Pattern SAY = Pattern.compile("say\\(x, \"(.*)\"\\); +// (\\d+)");
    static final Pattern ROW = Pattern.compile("(?m)^\\| `(\\w+\\(.*?\\))` \\| .* \\|(.*)\\|$");
    static final Pattern REFUSAL = Pattern.compile("\\b(?:UNKNOWN|OUTSIDE|NOT|FULL)\\b");
    static final Map<String, Method> CALLS = new HashMap<>();
    static final Set<String> CALLED = new TreeSet<>();
    static int wrong = 0, examples = 0;

    static void ask(boolean holds, String what) {
        if (holds) return;
        wrong++;
        System.out.println("README.md: " + what);
    }

    static int constant(String name) throws IllegalAccessException {
        try {
            return NineWheel.class.getField(name).getInt(null);
        } catch (NoSuchFieldException e) {
            ask(false, "there is no constant " + name);
            return 0;
        }
    }

    static Object number(String figures, Class<?> kind) {
        boolean inLong = figures.endsWith("L");
        long number = Long.decode(inLong ? figures.substring(0, figures.length() - 1) : figures);
        ask(kind == long.class || !inLong && number == (int) number, figures + " is no int");
        return kind == long.class ? (Object) number : (Object) (int) number;
    }

    static int call(NineWheel x, String name, String given) throws IllegalAccessException, InvocationTargetException {
        Method call = CALLS.get(name);
        String[] figures = given.isEmpty() ? new String[0] : given.split(", ");
        if (call == null || call.getParameterCount() != figures.length) {
            ask(false, "there is no call " + name + "(" + given + ")");
            return 0;
        }
        Object[] numbers = new Object[figures.length];
        for (int i = 0; i < figures.length; i++) numbers[i] = number(figures[i], call.getParameterTypes()[i]);
        CALLED.add(name);
        return (int) call.invoke(x, numbers);
    }

    static int say(NineWheel x, String text) {
        int many = 0;
        for (char c : text.toCharArray()) many = x.feed(1, c);
        return many;
    }

    static void example(NineWheel x, String line) throws IllegalAccessException, InvocationTargetException {
        examples++;
        Matcher said = SAY.matcher(line), called = CALL.matcher(line);
        if (said.matches()) {
            ask(say(x, said.group(1)) == Integer.parseInt(said.group(2)), line);
        } else if (called.matches()) {
            String told = called.group(3);
            int due = Character.isLetter(told.charAt(0)) ? constant(told) : Integer.parseInt(told);
            int got = call(x, called.group(1), called.group(2));
            ask(got == due, line + " answered " + got);
        } else {
            ask(false, "no example: " + line);
        }
    }

    static void examples(String page) throws IllegalAccessException, InvocationTargetException {
        NineWheel x = new NineWheel();
        Matcher block = BLOCK.matcher(page);
        while (block.find()) {
            if (block.group(1).startsWith("static")) continue;
            for (String line : block.group(1).split("\n")) {
                if (!line.equals("NineWheel x = new NineWheel();")) example(x, line);
            }
        }
        for (String name : CALLS.keySet()) ask(CALLED.contains(name), "no example of " + name);
    }

    static Set<String> refusalsIn(String words) {
        Set<String> refusals = new TreeSet<>();
        Matcher refusal = REFUSAL.matcher(words);
        while (refusal.find()) refusals.add(refusal.group());
        return refusals;
    }

    /** The face's lines in the document against the rows of the page's tables. */
    static void rows(String page, String document) {
        Map<String, String> rows = new HashMap<>();
        Matcher row = ROW.matcher(page);
        while (row.find()) ask(rows.put(row.group(1), row.group(2)) == null, row.group(1) + " is told twice");
        Matcher face = Pattern.compile("(?m)^    public int (\\w+)\\((.*)\\);$").matcher(document);
        int calls = 0;
        while (face.find()) {
            calls++;
            String call = face.group(1) + "(" + face.group(2).replaceAll("\\b(?:int|long) ", "") + ")";
            String refused = rows.get(call);
            ask(refused != null, call + " is not told");
            Matcher promise = Pattern.compile("(?m)^## Promise \\d+: " + face.group(1) + "\\n\\n(.*)$").matcher(document);
            boolean promised = promise.find();
            ask(promised, call + " is not promised");
            if (refused == null || !promised) continue;
            ask(refusalsIn(refused).equals(refusalsIn(promise.group(1))), call + " refuses " + refusalsIn(promise.group(1)));
        }
        ask(calls == rows.size() && calls == CALLS.size(), rows.size() + " calls told, " + calls + " in the document's face");
    }

    static void constants(String page) throws IllegalAccessException {
        for (String name : new String[] {"UNKNOWN", "OUTSIDE", "NOT", "FULL"}) {
            boolean told = Pattern.compile("(?m)^\\| `" + name + "` +\\| " + constant(name) + " \\|").matcher(page).find();
            ask(told, name + " is not told as " + constant(name));
        }
        ask(page.contains("`NONE` (" + constant("NONE") + ")"), "NONE is not told");
    }

    public static void main(String[] args) throws Exception {
        String page = Files.readString(Path.of("README.md")), document = Files.readString(Path.of("../shared/DOC.md"));
        for (Method call : NineWheel.class.getDeclaredMethods()) {
            if (Modifier.isPublic(call.getModifiers())) CALLS.put(call.getName(), call);
        }
        constants(page);
        rows(page, document);
        examples(page);
        System.out.println(examples + " examples and " + CALLS.size() + " calls of README.md looked at, " + wrong + " do not hold");
        if (wrong > 0) System.exit(1);
    }
}
