import java.lang.reflect.Method;
import java.lang.reflect.Modifier;
import java.net.URL;
import java.net.URLClassLoader;
import java.nio.charset.StandardCharsets;
import java.nio.file.Files;
import java.nio.file.Path;
import java.util.ArrayList;
import java.util.List;
import java.util.Set;
import java.util.TreeSet;
import java.util.regex.Matcher;
import java.util.regex.Pattern;
import javax.tools.JavaCompiler;
import javax.tools.ToolProvider;

/**
 * README.md is held to what it says: its blocks of Java are compiled as they stand and run, each with a new object, and
 * a call with an answer behind it must give that; so must its texts of nets. It leaves out no call and no refusal.
 */
public final class ReadmeTest {
    private static final Path README = Path.of("README.md");
    private static final Path DOCUMENT = Path.of("../shared/DOC.md");
    private static final Pattern SHOWN = Pattern.compile("(x\\.(\\w+)\\(.*\\)); +// (-?\\d+|BAD|FULL|NONE|STATE|NO)(: .*)?");
    private static final Pattern TEXT_ROW = Pattern.compile("\\| `(posts.*?)` \\| (-?\\d+) \\|.*");
    private static final Pattern CALL_ROW = Pattern.compile("\\| `((?:int|long) (\\w+)\\([^)]*\\))` \\|.*");
    private static final long[] REFUSALS = {-1, -2, -3, -4, -9, -11, -12, -13, -14, -15, 222, ShareNets.NO};

    private static final Check CHECK = new Check("ReadmeTest");
    private static final Set<Long> DUE = new TreeSet<>();

    public static void main(String[] args) throws Exception {
        List<String> lines = Files.readAllLines(README, StandardCharsets.UTF_8);
        Set<String> shown = new TreeSet<>();
        runBlocks(lines, shown);
        Set<String> face = namesOfFace();
        CHECK.isTrue("each call is shown with an answer, but " + without(face, shown), without(face, shown).isEmpty());
        for (long refusal : REFUSALS) {
            CHECK.isTrue("a call is shown that answers " + refusal, DUE.contains(refusal));
        }
        checkTexts(lines);
        checkTables(lines, face);
        CHECK.end();
    }

    /** Called by what is made of README.md. */
    public static void due(int line, String call, long want, long got) {
        CHECK.due("README.md:" + line + ": " + call, want, got);
        DUE.add(want);
    }

    private static void runBlocks(List<String> lines, Set<String> shown) throws Exception {
        StringBuilder source = new StringBuilder("public final class ReadmeCalls {\n");
        int blocks = 0;
        boolean inside = false;
        for (int i = 0; i < lines.size(); i++) {
            String line = lines.get(i);
            if (!inside && line.equals("```java")) {
                inside = true;
                source.append("public static void block").append(blocks).append("() {\n");
                CHECK.isTrue("README.md:" + (i + 2) + ": a block begins with a new object", lines.get(i + 1).equals("ShareNets x = new ShareNets();"));
                blocks++;
            } else if (inside && line.equals("```")) {
                inside = false;
                source.append("}\n");
            } else if (inside) {
                source.append(lineOfSource(line, i + 1, shown)).append('\n');
            }
        }
        CHECK.isTrue("blocks were found, and end", blocks > 0 && !inside);
        Class<?> calls = compile(source.append("}\n").toString());
        for (int block = 0; calls != null && block < blocks; block++) {
            calls.getMethod("block" + block).invoke(null);
        }
    }

    private static String lineOfSource(String line, int number, Set<String> shown) {
        Matcher call = SHOWN.matcher(line);
        if (!call.matches()) {
            CHECK.isTrue("README.md:" + number + ": an answer can be read: " + line, !line.contains("//"));
            return line;
        }
        shown.add(call.group(2));
        String answer = call.group(3);
        return "ReadmeTest.due(" + number + ", \"" + call.group(1) + "\", "
            + (Character.isLetter(answer.charAt(0)) ? "ShareNets." + answer : answer + "L") + ", " + call.group(1) + ");";
    }

    private static Class<?> compile(String source) throws Exception {
        JavaCompiler compiler = ToolProvider.getSystemJavaCompiler();
        Path directory = Files.createTempDirectory("readme");
        try {
            Path file = directory.resolve("ReadmeCalls.java");
            Files.writeString(file, source);
            int code = compiler.run(null, null, null, "-cp", System.getProperty("java.class.path"), "-d", directory.toString(), file.toString());
            CHECK.due("the blocks of README.md compile", 0, code);
            if (code != 0) {
                return null;
            }
            try (URLClassLoader loader = new URLClassLoader(new URL[] {directory.toUri().toURL()}, ReadmeTest.class.getClassLoader())) {
                return loader.loadClass("ReadmeCalls");
            }
        } finally {
            for (String name : new String[] {"ReadmeCalls.java", "ReadmeCalls.class", "."}) {
                Files.deleteIfExists(directory.resolve(name).normalize());
            }
        }
    }

    private static Set<String> namesOfFace() {
        Set<String> names = new TreeSet<>();
        for (Method m : ShareNets.class.getDeclaredMethods()) {
            if (Modifier.isPublic(m.getModifiers())) {
                names.add(m.getName());
            }
        }
        return names;
    }

    private static Set<String> without(Set<String> all, Set<String> some) {
        Set<String> left = new TreeSet<>(all);
        left.removeAll(some);
        return left;
    }

    private static void checkTexts(List<String> lines) {
        int texts = 0;
        for (int i = 0; i < lines.size(); i++) {
            Matcher row = TEXT_ROW.matcher(lines.get(i));
            if (row.matches()) {
                texts++;
                ShareNets x = new ShareNets();
                due(i + 1, "read of " + row.group(1), Long.parseLong(row.group(2)), Check.readText(x, 0, row.group(1)));
            }
        }
        CHECK.isTrue("texts were found", texts > 10);
    }

    /** The tables have each call of the face once, told as the document tells it. */
    private static void checkTables(List<String> lines, Set<String> face) throws Exception {
        Set<String> names = new TreeSet<>();
        List<String> told = new ArrayList<>();
        for (String line : lines) {
            Matcher row = CALL_ROW.matcher(line);
            if (row.matches()) {
                CHECK.isTrue("a call is in the tables once: " + row.group(2), names.add(row.group(2)));
                told.add(row.group(1));
            }
        }
        CHECK.isTrue("the tables have all calls, but " + without(face, names), face.equals(names));
        if (Files.exists(DOCUMENT)) {
            String document = Files.readString(DOCUMENT, StandardCharsets.UTF_8);
            for (String call : told) {
                CHECK.isTrue("the document tells " + call, document.contains("    public " + call + ";\n"));
            }
        }
    }
}
