import java.lang.reflect.Field;
import java.lang.reflect.Method;
import java.lang.reflect.Modifier;
import java.nio.charset.StandardCharsets;
import java.nio.file.Files;
import java.nio.file.Path;
import java.util.ArrayList;
import java.util.Arrays;
import java.util.List;
import java.util.Set;
import java.util.TreeSet;
import java.util.regex.Matcher;
import java.util.regex.Pattern;

/** Rules of ../shared/LANGUAGE.md, and the document's face, as far as a program can see them. */
public final class LanguageTest {
    private static final String FACE = "feed(long,int):int read(int):int posts(int,int):int road(int,int,int,boolean):int"
        + " netOf(int,int):int rows(int,int):int turn(int):int same(int,int):int form(int,int):int formAt(int,int):int"
        + " count(int,int,int):int share(int,int,int,int):int lift(int,int,int,int,int):int out(int,int,boolean):int"
        + " free(int):int heap(int):int most(int,int,int):int part(int):int chance(int,int,int):int bare():int"
        + " at(int,int,int):long freeAt():int blow(int):int near(int,int):int mixed(int,int):int draw(int,int):int"
        + " seed(int):int add(int,int,int):int shareOf(int,int):int weight(int,int):int gives(int,int):long"
        + " value(int,int,int):long valueAt(int,int):long bound(int,int,int):long slack(int,int,int,int):long"
        + " tight(int,int):int met(int,int):int prove(int,int):int row(int,int):int alterRow(int,int,int):int"
        + " judge(int,int):int sheet(int,int,int):int put(int,int,int):int item(int,int,int):int shelf(int,int,int):int"
        + " taken(int,int):int act(int,int,int):int trace(int):int many(int):int keep():int again():int";
    private static final String[] FORBIDDEN = {"throw", "throws", "try", "catch", "finally", "synchronized", "assert", "import",
        "package", "protected", "native", "volatile", "transient", "strictfp", "double", "float", "equals", "hashCode", "toString",
        "System", "Thread", "Object", "Class", "goto", "var", "sealed", "permits", "yield"};

    private static final Set<String> LIBRARY = Set.of("java/lang/Object.<init>", "java/lang/String.length", "java/lang/String.charAt",
        "java/lang/Integer.bitCount", "java/lang/Math.max", "java/lang/Math.abs");

    /** They carry their depth as an argument, and look at it first. */
    private static final Set<String> GUARDED = Set.of("canMatch", "choose", "drawParts", "drawRoads");
    private static final Path DOCUMENT = Path.of("../shared/DOC.md");

    private static final Check CHECK = new Check("LanguageTest");

    public static void main(String[] args) throws Exception {
        checkFace();
        for (Class<?> inside : allClasses()) {
            checkClass(inside);
        }
        String source = Files.readString(Path.of("src/main/java/ShareNets.java"), StandardCharsets.ISO_8859_1);
        checkSource(source);
        checkDocument();
        Bytecode bytecode = Bytecode.of(allClasses());
        if (bytecode == null) {
            System.out.println("LanguageTest: there is no javap here, so the compiled class was not looked at");
        } else {
            checkCalls(bytecode);
            checkSteps(bytecode);
        }
        CHECK.end();
    }

    private static List<Class<?>> allClasses() {
        List<Class<?>> all = new ArrayList<>();
        all.add(ShareNets.class);
        for (Class<?> inside : ShareNets.class.getDeclaredClasses()) {
            all.add(inside);
            CHECK.isTrue("rule 2: static " + inside, Modifier.isStatic(inside.getModifiers()));
            CHECK.isTrue("rule 1: not public " + inside, (inside.getModifiers() & (Modifier.PUBLIC | Modifier.PROTECTED)) == 0);
            CHECK.due("no class inside " + inside, 0, inside.getDeclaredClasses().length);
        }
        CHECK.isTrue("rule 11: classes", all.size() <= 12);
        return all;
    }

    private static void checkFace() {
        Set<String> face = new TreeSet<>(Arrays.asList(FACE.split(" ")));
        Set<String> found = new TreeSet<>();
        for (Method m : ShareNets.class.getDeclaredMethods()) {
            if (!Modifier.isPrivate(m.getModifiers())) {
                StringBuilder shown = new StringBuilder(m.getName()).append('(');
                for (Class<?> type : m.getParameterTypes()) {
                    shown.append(shown.charAt(shown.length() - 1) == '(' ? "" : ",").append(type.getName());
                }
                found.add(shown.append("):").append(m.getReturnType().getName()).toString());
                CHECK.due("rule 1: public alone " + m, Modifier.PUBLIC, m.getModifiers());
            }
        }
        CHECK.isTrue("the face is " + face + ", found is " + found, face.equals(found));
        CHECK.due("constructors", 1, ShareNets.class.getDeclaredConstructors().length);
        CHECK.due("public and final", Modifier.PUBLIC | Modifier.FINAL, ShareNets.class.getModifiers());
        Set<String> constants = new TreeSet<>();
        for (Field f : ShareNets.class.getDeclaredFields()) {
            if (!Modifier.isPrivate(f.getModifiers())) {
                constants.add(f.getType() + " " + f.getName());
                CHECK.due("a constant " + f, Modifier.PUBLIC | Modifier.STATIC | Modifier.FINAL, f.getModifiers());
            }
        }
        CHECK.isTrue("constants", constants.equals(Set.of("int BAD", "int FULL", "int NONE", "int STATE", "long NO")));
    }

    /** The face that is tested here is that of the document. */
    private static void checkDocument() throws Exception {
        if (!Files.exists(DOCUMENT)) {
            System.out.println("LanguageTest: there is no " + DOCUMENT + ", so the face was not looked up");
            return;
        }
        String document = Files.readString(DOCUMENT, StandardCharsets.UTF_8);
        String face = document.substring(document.indexOf("public final class ShareNets {"), document.indexOf("## Terms"));
        Matcher told = Pattern.compile("(?m)^    public (int|long) (\\w+)\\((.*)\\);$").matcher(face);
        Set<String> calls = new TreeSet<>();
        while (told.find()) {
            calls.add(told.group(2) + "(" + told.group(3).replaceAll(", ", ",").replaceAll(" \\w+", "") + "):" + told.group(1));
        }
        CHECK.isTrue("the document's face is " + calls, calls.equals(new TreeSet<>(Arrays.asList(FACE.split(" ")))));
        CHECK.isTrue("its constants", face.contains("    public static final int BAD = -1, FULL = -2, NONE = -3, STATE = -4;\n")
            && face.contains("    public static final long NO = -1000000000000L;\n"));
        CHECK.isTrue("each has a promise", document.contains("## Promise " + (calls.size() + 1) + ": again"));
    }

    /** Rules 4, 8 and 11: what is called, and how many calls stand open at once. */
    private static void checkCalls(Bytecode bytecode) {
        for (String call : bytecode.outside()) {
            CHECK.isTrue("rule 4: " + call, LIBRARY.contains(call));
        }
        Set<String> recursive = new TreeSet<>();
        for (String ofClass : bytecode.above.keySet()) {
            for (String method : bytecode.calls.keySet()) {
                List<String> row = bytecode.deepest(method, ofClass, new TreeSet<>(), recursive);
                CHECK.isTrue("rule 11: at most eight deep: " + row, row.size() <= 8);
            }
        }
        for (String method : recursive) {
            String name = method.substring(method.indexOf('.') + 1, method.indexOf('('));
            CHECK.isTrue("rule 8: known to be guarded by its depth: " + method, !method.startsWith("round") && GUARDED.contains(name));
        }
        CHECK.due("rule 8: recursion was found", GUARDED.size(), recursive.size());
    }

    private static void checkSteps(Bytecode bytecode) {
        CHECK.isTrue("steps were found", bytecode.steps.containsKey("invokevirtual"));
        CHECK.isTrue("rule 6: nothing is caught", !bytecode.catches);
        for (String step : new String[] {"athrow", "monitorenter", "invokedynamic", "invokeinterface", "checkcast", "jsr"}) {
            CHECK.isTrue("rules 2 and 6: " + step, !bytecode.steps.containsKey(step));
        }
        for (String step : new String[] {"new", "newarray", "anewarray", "multianewarray"}) {
            for (String method : bytecode.steps.getOrDefault(step, Set.of())) {
                CHECK.isTrue("rule 12: " + step + " in " + method, method.contains("init>") || method.contains(".makeShare("));
            }
        }
    }

    private static void checkClass(Class<?> inside) {
        int fields = 0;
        for (Field f : inside.getDeclaredFields()) {
            if (Modifier.isStatic(f.getModifiers())) {
                CHECK.isTrue("rule 5: final " + f, Modifier.isFinal(f.getModifiers()));
                CHECK.isTrue("rule 5: of " + f, Set.of(int.class, long.class, boolean.class, char.class, String.class, int[].class,
                    long[].class, char[].class, byte[].class).contains(f.getType()));
            } else {
                fields++;
            }
        }
        CHECK.isTrue("rule 11: fields of " + inside, fields <= 20);
        for (Method m : inside.getDeclaredMethods()) {
            CHECK.isTrue("rule 11: parameters of " + m, m.getParameterCount() <= 7);
            boolean named = (" " + FACE).contains(" " + m.getName() + "(");
            CHECK.isTrue("rule 1: a name of the face for " + m, !named || inside == ShareNets.class && Modifier.isPublic(m.getModifiers()));
        }
    }

    private static void checkSource(String source) {
        for (int i = 0; i < source.length(); i++) {
            if (source.charAt(i) > 126 || source.charAt(i) < 32 && source.charAt(i) != '\n') {
                CHECK.isTrue("a plain sign at " + i, false);
            }
        }
        String code = source.replaceAll("(?s)/\\*.*?\\*/", "").replaceAll("//[^\n]*", "").replaceAll("\"[^\"\n]*\"", "\"\"");
        for (String word : FORBIDDEN) {
            CHECK.isTrue("forbidden: " + word, !Pattern.compile("\\b" + word + "\\b").matcher(code).find());
        }
        for (String sign : new String[] {"->", "::", "@", "\" +", "+ \""}) {
            CHECK.isTrue("forbidden: " + sign, !code.contains(sign));
        }
        CHECK.isTrue("static block", !Pattern.compile("static\\s*\\{").matcher(code).find());
        checkLengths(source);
    }

    private static void checkLengths(String source) {
        Matcher method = Pattern.compile("(?m)^( {4}| {8})(?! )[^\n;=]*\\([^\n;]*\\) \\{$").matcher(source);
        int methods = 0;
        while (method.find()) {
            int end = source.indexOf("\n" + method.group(1) + "}", method.start());
            long lines = source.substring(method.start(), end).lines().count();
            CHECK.isTrue("rule 11: length of " + method.group().trim(), lines <= 60);
            methods++;
        }
        CHECK.isTrue("methods were found", methods > 100);
    }
}
