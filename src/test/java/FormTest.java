import java.io.IOException;
import java.lang.reflect.Constructor;
import java.lang.reflect.Field;
import java.lang.reflect.Method;
import java.lang.reflect.Modifier;
import java.nio.file.DirectoryStream;
import java.nio.file.Files;
import java.nio.file.Path;
import java.util.ArrayList;
import java.util.List;
import java.util.Map;
import java.util.Set;
import java.util.TreeMap;
import java.util.TreeSet;
import java.util.regex.Matcher;
import java.util.regex.Pattern;

/** The public face as the document writes it, and what of LANGUAGE.md the source shows. */
public final class FormTest {
    private static final String FACE = "feed/1 end/1 text/0 fault/0 rule/1 hedge/1 gardener/2 guest/2 way/2 turn/1 "
        + "grow/2 alter/3 hire/3 leave/1 come/2 move/2 bread/2 open/1 days/1 runs/2 ahead/3 stands/2 out/1 again/0 "
        + "cut/2 door/2 food/1 sack/2 swap/2 kind/3 luck/4 mean/3 see/3 forget/1 kinds/1 tastes/1 ask/2 drift/3 "
        + "keep/1 back/1 sheet/3 lay/3 read/4 torn/0 count/1";
    private static final String FORBIDDEN = "\\b(throw|throws|try|catch|synchronized|assert|var|Exact|hashCode|Object"
        + "|Random|Thread|currentTimeMillis|nanoTime|File|yield)\\b|Exact\\(|->|::|@|\\bSystem\\.(?!arraycopy)";
    private static final Check CHECK = new Check();

    private static void face() throws IllegalAccessException {
        CHECK.isTrue("public and final", (MownMaze.class.getModifiers() & (Modifier.PUBLIC | Modifier.FINAL))
            == (Modifier.PUBLIC | Modifier.FINAL));
        Constructor<?>[] made = MownMaze.class.getDeclaredConstructors();
        CHECK.isTrue("one constructor, without numbers", made.length == 1 && made[0].getParameterCount() == 0
            && Modifier.isPublic(made[0].getModifiers()));
        Set<String> calls = new TreeSet<>();
        Set<String> names = new TreeSet<>();
        for (Method m : MownMaze.class.getDeclaredMethods()) {
            if (Modifier.isPublic(m.getModifiers())) {
                calls.add(m.getName() + "/" + m.getParameterCount());
                names.add(m.getName());
                boolean wide = m.getName().equals("luck") || m.getName().equals("mean");
                CHECK.isTrue("answer of " + m, m.getReturnType() == (wide ? long.class : int.class));
                for (Class<?> type : m.getParameterTypes()) {
                    CHECK.isTrue("numbers of " + m, type == int.class);
                }
            }
        }
        Set<String> due = new TreeSet<>(List.of(FACE.split(" ")));
        CHECK.isTrue("calls " + calls, calls.equals(due));
        for (Method m : MownMaze.class.getDeclaredMethods()) {
            boolean hidden = Modifier.isPrivate(m.getModifiers()) && !names.contains(m.getName());
            CHECK.isTrue("hidden: " + m, Modifier.isPublic(m.getModifiers()) || hidden);
        }
        int constants = 0;
        for (Field f : MownMaze.class.getDeclaredFields()) {
            if (Modifier.isPublic(f.getModifiers())) {
                constants++;
                int at = List.of("BAD", "STATE", "FULL", "NONE").indexOf(f.getName());
                CHECK.due(f.getName(), f.getInt(null), -1 - at);
            } else {
                CHECK.isTrue("private: " + f, Modifier.isPrivate(f.getModifiers()));
            }
            CHECK.isTrue("final if static: " + f, !Modifier.isStatic(f.getModifiers()) || Modifier.isFinal(f.getModifiers()));
        }
        CHECK.due("constants", constants, 4);
        for (Class<?> inside : MownMaze.class.getDeclaredClasses()) {
            CHECK.isTrue("static and hidden: " + inside, Modifier.isStatic(inside.getModifiers())
                && !Modifier.isPublic(inside.getModifiers()) && !Modifier.isProtected(inside.getModifiers()));
        }
    }

    private static String withoutWords(String source) {
        return source.replaceAll("(?s)/\\*.*?\\*/", "").replaceAll("//[^\\n]*", "").replaceAll("\"[^\"\\n]*\"", "\"\"");
    }

    private static void source() throws IOException {
        String source = Files.readString(Path.of("src/main/java/MownMaze.java"));
        CHECK.isTrue("signs 1 to 127", source.chars().allMatch(c -> c >= 1 && c <= 127));
        String code = withoutWords(source);
        Matcher found = Pattern.compile(FORBIDDEN).matcher(code);
        while (found.find()) {
            CHECK.isTrue("forbidden: " + found.group(), false);
        }
        Matcher imports = Pattern.compile("import ([^;]*);").matcher(code);
        while (imports.find()) {
            CHECK.isTrue("import " + imports.group(1), Set.of("java.util.Arrays", "java.util.ArrayList",
                "java.util.List", "java.util.Iterator").contains(imports.group(1)));
        }
        CHECK.isTrue("no package", !code.contains("package "));
        methodsAreShort(code.split("\\n"));
        callsGoEightDeep(code.split("\\n"));
        objectsAreMadeOnce(code);
    }

    /** All rows are made with the object, so no number of calls fills the room: fields and the constructor alone say new. */
    private static void objectsAreMadeOnce(String code) {
        int from = code.indexOf("public MownMaze() {");
        int to = code.indexOf("\n    }\n", from);
        CHECK.isTrue("the constructor", from >= 0 && to > from);
        for (String line : (code.substring(0, from) + code.substring(to)).split("\\n")) {
            if (Pattern.compile("\\bnew\\b").matcher(line).find()) {
                CHECK.isTrue("made once: " + line.trim(), line.matches(" +(private )?final \\S+ \\w+ = new [^;]*;"));
            }
        }
    }

    /** Each promise has tests of its bounds, named by it. */
    private static void everyPromiseHasItsBounds() throws IOException {
        StringBuilder tests = new StringBuilder();
        try (DirectoryStream<Path> files = Files.newDirectoryStream(Path.of("src/test/java"), "Bounds*Test.java")) {
            for (Path file : files) {
                tests.append(Files.readString(file));
            }
        }
        for (int n = 1; n <= 46; n++) {
            boolean named = Pattern.compile("private static void promise" + n + "[A-Z]\\w*\\(\\)").matcher(tests).find();
            CHECK.isTrue("bounds of promise " + n, named);
        }
    }

    /** By the indent: a method of a class, or of a class inside it, opens at four or at eight blanks. */
    private static void methodsAreShort(String[] lines) {
        List<Integer> open = new ArrayList<>();
        for (int i = 0; i < lines.length; i++) {
            if (lines[i].matches(" {4}( {4})?[a-zA-Z].*\\) \\{")) {
                open.add(i);
            } else if (lines[i].matches(" {4}( {4})?}") && !open.isEmpty()) {
                int from = open.get(open.size() - 1);
                if (lines[from].indexOf(lines[from].trim()) == lines[i].indexOf('}')) {
                    open.remove(open.size() - 1);
                    CHECK.isTrue("sixty lines at most: " + lines[from].trim(), i - from + 1 <= 60);
                    CHECK.isTrue("seven numbers at most: " + lines[from].trim(), lines[from].split(",").length <= 7);
                }
            }
        }
    }

    /** By names alone, as if each method called every method that bears a name which it calls: so rather too deep. */
    private static void callsGoEightDeep(String[] lines) {
        Map<String, String> bodies = new TreeMap<>();
        for (int i = 0; i < lines.length; i++) {
            Matcher head = Pattern.compile("( {4}| {8})[a-zA-Z].*\\b(\\w+)\\([^()]*\\) \\{").matcher(lines[i]);
            if (head.matches()) {
                StringBuilder body = new StringBuilder();
                for (int at = i + 1; at < lines.length && !lines[at].equals(head.group(1) + "}"); at++) {
                    body.append(lines[at]).append('\n');
                }
                bodies.merge(head.group(2), body.toString(), String::concat);
            }
        }
        CHECK.isTrue("methods are found: " + bodies.keySet(), bodies.size() > 46 && bodies.containsKey("weightOfOuts"));
        for (String name : bodies.keySet()) {
            CHECK.isTrue("eight deep at most: " + name + " goes " + depth(name, bodies, 0), depth(name, bodies, 0) <= 8);
        }
    }

    /** How many calls stand open at once; what calls itself is counted once, and who goes round never ends below 20. */
    private static int depth(String name, Map<String, String> bodies, int above) {
        int deepest = 0;
        Matcher calls = Pattern.compile("\\b(\\w+)\\(").matcher(bodies.get(name));
        while (calls.find() && above < 20) {
            if (bodies.containsKey(calls.group(1)) && !calls.group(1).equals(name)) {
                deepest = Math.max(deepest, depth(calls.group(1), bodies, above + 1));
            }
        }
        return deepest + 1;
    }

    /** Constants stand beside the fields that are counted. */
    private static void classesAreSmall() {
        List<Class<?>> all = new ArrayList<>(List.of(MownMaze.class.getDeclaredClasses()));
        all.add(MownMaze.class);
        CHECK.isTrue("twelve classes at most", all.size() <= 12);
        for (Class<?> one : all) {
            int fields = 0;
            for (Field f : one.getDeclaredFields()) {
                fields += Modifier.isStatic(f.getModifiers()) ? 0 : 1;
                CHECK.isTrue("a static number: " + f, !Modifier.isStatic(f.getModifiers()) || f.getType() == int.class);
            }
            CHECK.isTrue("twenty fields at most: " + one, fields <= 20);
        }
    }

    public static void main(String[] args) throws IOException, IllegalAccessException {
        face();
        source();
        classesAreSmall();
        everyPromiseHasItsBounds();
        CHECK.finish();
    }
}
