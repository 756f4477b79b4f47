import java.io.File;
import java.io.PrintWriter;
import java.io.StringWriter;
import java.util.HashMap;
import java.util.List;
import java.util.Map;
import java.util.Optional;
import java.util.TreeSet;
import java.util.regex.Matcher;
import java.util.regex.Pattern;
import java.util.spi.ToolProvider;

/**
 * Rules 4, 6 and 11 of LANGUAGE.md, as the compiled class shows them: no library but what is listed, just led()
 * throws, calls go at most eight deep, and none calls itself by any way round.
 */
public final class RulesTest {
    private static final Pattern METHOD = Pattern.compile("^  \\S.*?([\\w$]+)\\([^)]*\\)( throws .*)?;$");
    private static final Pattern CALL = Pattern.compile("invoke\\w+ .*// \\w*Method (\\S+?):");
    private static final Pattern THROWS = Pattern.compile("^ +\\d+: athrow");
    private static final Pattern JOINS = Pattern.compile("invokedynamic");
    private static final int MOST = 8;
    private static final List<String> LIBRARY = List.of("java/lang/Object.<init>", "java/util/Arrays.fill",
        "java/lang/Math.min", "java/lang/Math.max", "java/lang/String.length", "java/lang/String.charAt",
        "java/util/NoSuchElementException.<init>");

    private static final Map<String, TreeSet<String>> CALLS = new HashMap<>();
    private static final Map<String, Integer> DEPTHS = new HashMap<>();

    public static void main(String[] args) throws Exception {
        Optional<ToolProvider> javap = ToolProvider.findFirst("javap");
        Check.due("the JDK has javap", javap.isPresent(), true);
        if (javap.isPresent()) {
            File folder = new File(TwoWeavers.class.getProtectionDomain().getCodeSource().getLocation().toURI());
            for (File file : folder.listFiles((where, name) -> name.matches("TwoWeavers(\\$\\w+)?\\.class"))) {
                read(file, javap.get());
            }
            for (String from : CALLS.keySet()) {
                Check.due("calls below " + from + " go " + depth(from, 0) + " deep", depth(from, 0) <= MOST, true);
            }
        }
        Check.end();
    }

    private static void read(File file, ToolProvider javap) {
        StringWriter told = new StringWriter();
        PrintWriter out = new PrintWriter(told);
        javap.run(out, out, "-p", "-c", file.getPath());
        String own = file.getName().replace(".class", "");
        String from = own + ".none";
        for (String line : told.toString().split("\\R")) {
            Matcher method = METHOD.matcher(line);
            Matcher call = CALL.matcher(line);
            if (method.find()) {
                from = own + "." + method.group(1);
                CALLS.putIfAbsent(from, new TreeSet<>());
            } else if (call.find()) {
                String to = call.group(1).replace("\"", "");
                CALLS.computeIfAbsent(from, key -> new TreeSet<>()).add(to.contains(".") ? to : own + "." + to);
                Check.due("rule 4: " + from + " calls " + to, to.contains("/") && !LIBRARY.contains(to), false);
            } else if (THROWS.matcher(line).find()) {
                Check.due("rule 6: " + from + " throws", from.equals("TwoWeavers.led"), true);
            }
            Check.due("rule 4: " + from + " has " + line, JOINS.matcher(line).find(), false);
        }
    }

    /** The call itself counts as one; a round of calls comes out as too deep. */
    private static int depth(String from, int above) {
        if (DEPTHS.containsKey(from)) {
            return DEPTHS.get(from);
        }
        int most = 0;
        for (String to : CALLS.getOrDefault(from, new TreeSet<>())) {
            most = Math.max(most, above > 50 ? 99 : depth(to, above + 1));
        }
        DEPTHS.put(from, most + 1);
        return most + 1;
    }
}
