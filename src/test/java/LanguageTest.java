import java.io.IOException;
import java.lang.reflect.Constructor;
import java.lang.reflect.Field;
import java.lang.reflect.Method;
import java.lang.reflect.Modifier;
import java.nio.file.Files;
import java.nio.file.Path;
import java.util.ArrayList;
import java.util.Arrays;
import java.util.List;
import java.util.NoSuchElementException;
import java.util.Set;
import java.util.TreeSet;
import java.util.regex.Matcher;
import java.util.regex.Pattern;
import java.util.stream.Collectors;

/** The face as the document writes it, and those rules of LANGUAGE.md that the source can be searched for. */
public final class LanguageTest {
    private static final Path DOCUMENT = Path.of("../shared/DOC.md");
    private static final String SOURCE = "src/main/java/ChanceRings.java";
    private static final String FACE = "int feed(int,int,int,int,int);boolean end(int);int game();int fault();int node(int,int)!;"
        + "int way(int,int,int)!;long worth(int,int)!;int best(int);int good(int);int tried(int);long left(int,int)!;"
        + "int improve();int improveAll();int hold(int,int);int free(int);int weigh(int,int,int);int pay(int,int);"
        + "long stopped(int,int,int)!;long within(int,int,int)!;int forced(int,int);int rings();int ring(int);"
        + "long moves(int,int)!;int sets(int,int);int rank(int);int above();int below();int play(int,int,int);"
        + "int often(int,int,int,int);int text();int byteAt(int);int undo();boolean image(int);boolean restore(int);"
        + "int count(int)";

    private final Due due = new Due("LanguageTest");

    public static void main(String[] args) throws IOException {
        new LanguageTest().run();
    }

    private void run() throws IOException {
        face();
        if (Files.exists(DOCUMENT)) {
            faceOfDocument(Files.readString(DOCUMENT));
        }
        classesInside();
        source(Files.readString(Path.of(SOURCE)));
        due.finish();
    }

    private void face() {
        Class<?> type = ChanceRings.class;
        due.holds("public final", Modifier.isPublic(type.getModifiers()) && Modifier.isFinal(type.getModifiers()));
        Set<String> found = new TreeSet<>();
        Set<String> names = new TreeSet<>();
        for (Method m : type.getDeclaredMethods()) {
            if (!Modifier.isPrivate(m.getModifiers())) {
                boolean tells = Arrays.asList(m.getExceptionTypes()).contains(NoSuchElementException.class);
                found.add(m.getReturnType() + " " + m.getName() + Arrays.stream(m.getParameterTypes()).map(Class::getName)
                    .collect(Collectors.joining(",", "(", ")")) + (tells ? "!" : ""));
                names.add(m.getName());
                due.holds(m.getName() + " is public", Modifier.isPublic(m.getModifiers()));
            }
        }
        due.holds("methods " + found, found.equals(new TreeSet<>(Arrays.asList(FACE.split(";")))));
        for (Method m : type.getDeclaredMethods()) {
            due.holds(m.getName() + " is no private one's name", !Modifier.isPrivate(m.getModifiers()) || !names.contains(m.getName()));
        }
        for (Class<?> inside : type.getDeclaredClasses()) {
            for (Method m : inside.getDeclaredMethods()) {
                due.holds(inside.getSimpleName() + "." + m.getName() + " is no public one's name", !names.contains(m.getName()));
            }
        }
        List<String> seen = new ArrayList<>();
        for (Field f : type.getDeclaredFields()) {
            if (!Modifier.isPrivate(f.getModifiers())) {
                seen.add(Modifier.toString(f.getModifiers()) + " " + f.getType() + " " + f.getName());
            }
        }
        due.holds("constants " + seen, seen.equals(List.of("public static final int NONE")));
        due.is("NONE", ChanceRings.NONE, -1);
        Constructor<?>[] makers = type.getDeclaredConstructors();
        due.holds("one public constructor", makers.length == 1 && Modifier.isPublic(makers[0].getModifiers())
            && makers[0].getParameterCount() == 0);
    }

    /** What the document writes under 'The public face' is what is looked for above. */
    private void faceOfDocument(String document) {
        int start = document.indexOf("public final class ChanceRings {");
        due.holds("the document writes a face", start >= 0);
        String block = document.substring(Math.max(start, 0)).split("\n\\}")[0];
        due.holds("its constant", block.contains("public static final int NONE = -1;"));
        due.holds("its constructor", block.contains("public ChanceRings();"));
        Set<String> told = new TreeSet<>();
        Matcher m = Pattern.compile("public (\\w+ \\w+)\\(([^)]*)\\)( throws NoSuchElementException)?;").matcher(block);
        while (m.find()) {
            told.add(m.group(1) + "(" + m.group(2).replaceAll(" \\w+(,|$) ?", "$1") + ")" + (m.group(3) == null ? "" : "!"));
        }
        due.holds("its methods " + told, told.equals(new TreeSet<>(Arrays.asList(FACE.split(";")))));
        due.is("its lines", block.lines().filter(line -> line.trim().startsWith("public")).count(), told.size() + 3);
    }

    private void classesInside() {
        Class<?>[] inside = ChanceRings.class.getDeclaredClasses();
        due.holds("twelve classes at most", inside.length + 1 <= 12);
        List<Class<?>> all = new ArrayList<>(Arrays.asList(inside));
        all.add(ChanceRings.class);
        for (Class<?> type : all) {
            due.holds(type + " is static", type == ChanceRings.class || Modifier.isStatic(type.getModifiers()));
            int fields = 0;
            for (Field f : type.getDeclaredFields()) {
                boolean isStatic = Modifier.isStatic(f.getModifiers());
                due.holds(f + " is final if static", !isStatic || Modifier.isFinal(f.getModifiers()));
                fields += isStatic ? 0 : 1;
            }
            due.holds(type + " has twenty fields at most", fields <= 20);
            for (Method m : type.getDeclaredMethods()) {
                due.holds(m + " takes seven parameters at most", m.getParameterCount() <= 7);
            }
        }
    }

    private void source(String text) {
        String code = text.replaceAll("(?s)/\\*.*?\\*/", "").replaceAll("//[^\n]*", "").replaceAll("\"[^\"\n]*\"", "\"\"");
        String[] never = {
            "\\bcatch\\b", "\\btry\\b", "\\bfinally\\b", "\\bassert\\b", "\\bsynchronized\\b", "->", "::", "\\bMath\\.\\w+Exact\\b",
            "\\bgetMessage\\b", "\\bhashCode\\b", "\\btoString\\b", "\\bpackage\\b", "\\bdouble\\b", "\\bfloat\\b", "\\bvar\\b",
            "\\bSystem\\.(?!arraycopy)", "\\bThread\\b", "\\bRandom\\b", "\"\" *\\+", "\\+ *\"\"", "static *\\{", "\\bwhile *\\( *true"};
        for (String pattern : never) {
            Matcher m = Pattern.compile(pattern).matcher(code);
            due.holds("nothing like " + pattern, !m.find());
        }
        due.holds("signs 1 to 127", text.chars().allMatch(s -> s >= 1 && s <= 127));
        Matcher imports = Pattern.compile("\\bimport ([^;]+);").matcher(code);
        while (imports.find()) {
            due.holds("import " + imports.group(1), imports.group(1).equals("java.util.NoSuchElementException"));
        }
        Matcher thrown = Pattern.compile("\\bthrow\\b([^;]*);").matcher(code);
        while (thrown.find()) {
            due.holds("throw" + thrown.group(1), thrown.group(1).trim().equals("new NoSuchElementException()"));
        }
        methodsAreShort(code);
    }

    /** Methods of the class stand four blanks in, those of classes inside eight. */
    private void methodsAreShort(String code) {
        String[] lines = code.split("\n");
        for (int i = 0; i < lines.length; i++) {
            Matcher m = Pattern.compile("^( {4}| {8})(?! )[^=;]*\\) *(throws \\w+ )?\\{$").matcher(lines[i]);
            if (m.find()) {
                int end = i;
                while (!lines[end].equals(m.group(1) + "}")) {
                    end++;
                }
                due.holds("sixty lines at most: " + lines[i].trim(), end - i <= 60);
            }
        }
    }
}
