import java.net.URL;
import java.net.URLClassLoader;
import java.nio.file.Files;
import java.nio.file.Path;
import java.util.ArrayList;
import java.util.List;
import java.util.Set;
import java.util.TreeSet;
import java.util.regex.Matcher;
import java.util.regex.Pattern;
import javax.tools.JavaCompiler;
import javax.tools.ToolProvider;

/** What README.md shows is what the class answers: its examples are compiled and run, its lists are looked up. */
public final class ReadmeTest extends Checks {
    private static final Pattern BLOCK = Pattern.compile("(?ms)^```java\n(.*?)^```$");
    private static final Pattern SHOWN = Pattern.compile("^(\\w+\\.\\w+\\(.*\\)); *// (-?\\d+|NONE|BAD|STATE|FULL)\\b.*$");
    private static final Pattern CALL = Pattern.compile("^\\w+\\.\\w+\\(.*\\);.*$");
    private static final Pattern LISTED = Pattern.compile("(?m)^\\| `(\\w+\\([\\w, ]*\\))` \\|");
    private static final Pattern NAMED = Pattern.compile("(?m)^\\| (-\\d+) \\| `HeelPost\\.(\\w+)` \\|");
    private static final Pattern FINDING = Pattern.compile("(?m)^\\| (-10000\\d\\d) \\| (\\w+) \\|");

    public static void main(String[] args) throws Exception {
        test = "README.md";
        String readme = Files.readString(Path.of("README.md"));
        theExamples(readme);
        theCalls(readme);
        theRefusals(readme);
        end();
    }

    // ---------------------------------------------------------------- the examples

    private static void theExamples(String readme) throws Exception {
        StringBuilder body = new StringBuilder();
        int shown = 0;
        Matcher blocks = BLOCK.matcher(readme);
        while (blocks.find()) {
            for (String line : blocks.group(1).split("\n")) {
                Matcher m = SHOWN.matcher(line);
                if (m.matches()) {
                    String want = m.group(2).matches("[A-Z]+") ? "HeelPost." + m.group(2) : m.group(2);
                    body.append("told.add(new Object[] {\"").append(m.group(1)).append("\", (long) ").append(m.group(1))
                        .append(", (long) ").append(want).append("});\n");
                    shown++;
                } else {
                    body.append(line).append('\n');
                    if (CALL.matcher(line).matches()) {
                        fail("no answer is shown for " + line);
                    }
                }
            }
        }
        if (shown == 0) {
            fail("no example is shown");
        }
        compare(run(body.toString()), shown);
    }

    private static void compare(List<Object[]> told, int shown) {
        due("answers", told.size(), shown);
        for (Object[] each : told) {
            due((String) each[0], (Long) each[1], (Long) each[2]);
        }
        System.out.println(told.size() + " examples");
    }

    /** The examples are one program; it is made a class of its own, as a reader would. */
    @SuppressWarnings("unchecked")
    private static List<Object[]> run(String body) throws Exception {
        Path folder = Files.createTempDirectory("readme");
        Path source = folder.resolve("Shown.java");
        Path made = folder.resolve("Shown.class");
        try {
            Files.writeString(source, "public class Shown {\npublic static java.util.List<Object[]> told() {\n"
                + "java.util.List<Object[]> told = new java.util.ArrayList<>();\n" + body + "return told;\n}\n}\n");
            JavaCompiler compiler = ToolProvider.getSystemJavaCompiler();
            int failed = compiler.run(null, null, null, "-nowarn", "-proc:none", "-cp",
                System.getProperty("java.class.path"), "-d", folder.toString(), source.toString());
            if (failed != 0) {
                fail("the examples do not compile");
                return new ArrayList<>();
            }
            try (URLClassLoader loader = new URLClassLoader(new URL[] {folder.toUri().toURL()})) {
                return (List<Object[]>) loader.loadClass("Shown").getMethod("told").invoke(null);
            }
        } finally {
            Files.deleteIfExists(source);
            Files.deleteIfExists(made);
            Files.deleteIfExists(folder);
        }
    }

    // ---------------------------------------------------------------- the lists

    /** All calls, with the names that their numbers have in the document. */
    private static void theCalls(String readme) throws Exception {
        Set<String> want = new TreeSet<>();
        for (String head : faceOfTheDocument()) {
            Matcher m = Pattern.compile("^public (?:int|long) (\\w+\\(.*\\));$").matcher(head);
            if (m.matches()) {
                want.add(m.group(1).replace("int ", ""));
            }
        }
        Set<String> got = new TreeSet<>();
        Matcher listed = LISTED.matcher(readme);
        while (listed.find()) {
            if (!got.add(listed.group(1))) {
                fail(listed.group(1) + " is listed twice");
            }
        }
        if (!want.isEmpty() && !got.equals(want)) {
            fail("the calls listed are " + got + ", the document's are " + want);
        }
    }

    private static void theRefusals(String readme) throws Exception {
        Set<String> names = new TreeSet<>();
        Matcher named = NAMED.matcher(readme);
        while (named.find()) {
            names.add(named.group(2));
            due(named.group(2), Long.parseLong(named.group(1)), HeelPost.class.getField(named.group(2)).getInt(null));
        }
        if (!names.equals(Set.of("NONE", "BAD", "STATE", "FULL"))) {
            fail("the refusals named are " + names);
        }
        List<String> findings = new ArrayList<>();
        Matcher found = FINDING.matcher(readme);
        while (found.find()) {
            findings.add(found.group(2));
            due(found.group(2), Long.parseLong(found.group(1)), -1000010 - findings.size());
        }
        if (!findings.equals(List.of("NULL", "PLACE", "KIND", "SIZE", "STORE"))) {
            fail("the findings named are " + findings);
        }
    }
}
