import java.io.IOException;
import java.lang.reflect.Constructor;
import java.lang.reflect.Field;
import java.lang.reflect.Method;
import java.lang.reflect.Modifier;
import java.nio.file.Files;
import java.nio.file.Path;
import java.util.ArrayList;
import java.util.Arrays;
import java.util.List;
import java.util.Set;
import java.util.TreeSet;
import java.util.regex.Matcher;
import java.util.regex.Pattern;

/** The public face as the document lists it, and the rules of LANGUAGE.md that can be seen in the text. */
public final class FaceTest {
    private static final Check CHECK = new Check();
    private static final Path DOCUMENT = Path.of("../shared/DOC.md");
    private static final Path SOURCE = Path.of("src/main/java/ChairSmells.java");
    private static final Set<String> LIBRARY = Set.of("Arrays.fill", "Integer.bitCount", "Long.bitCount", "Math.max",
            "Math.min", "System.arraycopy");

    public static void main(String[] args) throws IOException {
        String document = Files.readString(DOCUMENT);
        String source = Files.readString(SOURCE);
        face(document);
        promises(document);
        ahead(document, source);
        text(source);
        CHECK.end();
    }

    /** The face between the marks of the document: "public int tells(int hour, int thing);" and its like. */
    private static List<String> faceCalls(String document) {
        List<String> calls = new ArrayList<>();
        Matcher call = Pattern.compile("(?m)^    public ((?:int|long) \\w+\\([^)]*\\));$").matcher(document);
        while (call.find()) {
            calls.add(call.group(1));
        }
        return calls;
    }

    private static void face(String document) {
        Class<?> face = ChairSmells.class;
        CHECK.same("public and final", Modifier.toString(face.getModifiers()), "public final");
        Set<String> methods = new TreeSet<>();
        Set<String> publicNames = new TreeSet<>();
        for (Method method : face.getDeclaredMethods()) {
            if (!Modifier.isPrivate(method.getModifiers())) {
                CHECK.same(method.getName(), Modifier.toString(method.getModifiers()), "public");
                publicNames.add(method.getName());
                String types = Arrays.toString(method.getParameterTypes()).replaceAll("[\\[\\] ]", "");
                methods.add(method.getReturnType() + " " + method.getName() + "(" + types + ")");
            }
        }
        Set<String> due = new TreeSet<>();
        for (String call : faceCalls(document)) {
            due.add(call.replaceAll("int \\w+(?=[,)])", "int").replace(" ", "").replaceFirst("^(int|long)", "$1 "));
        }
        CHECK.due("calls of the face", due.size(), 36);
        CHECK.same("methods", methods, due);
        Set<String> fields = new TreeSet<>();
        for (Field field : face.getDeclaredFields()) {
            if (!Modifier.isPrivate(field.getModifiers())) {
                fields.add(Modifier.toString(field.getModifiers()) + " " + field.getType() + " " + field.getName());
            }
        }
        CHECK.same("constants", fields.toString(), "[public static final int BAD, public static final int FULL,"
                + " public static final int NONE, public static final int NOT]");
        CHECK.due("NONE", ChairSmells.NONE, -1);
        CHECK.due("BAD", ChairSmells.BAD, -2);
        CHECK.due("NOT", ChairSmells.NOT, -3);
        CHECK.due("FULL", ChairSmells.FULL, -4);
        Constructor<?>[] made = face.getDeclaredConstructors();
        CHECK.due("constructors", made.length, 1);
        CHECK.same("constructor", made[0].toString(), "public ChairSmells()");
        for (Class<?> inside : face.getDeclaredClasses()) {
            CHECK.same(inside + " is static", Modifier.isStatic(inside.getModifiers()), true);
            CHECK.same(inside + " has few fields", inside.getDeclaredFields().length <= 20, true);
            for (Method method : inside.getDeclaredMethods()) {
                CHECK.same(method + " bears a public name", publicNames.contains(method.getName()), false);
                CHECK.same(method + " has few parameters", method.getParameterCount() <= 7, true);
            }
        }
        CHECK.same("few classes", face.getDeclaredClasses().length <= 11, true);
    }

    /** Each promise behind the first is of one call of the face, in its order. */
    private static void promises(String document) {
        List<String> promised = new ArrayList<>();
        Matcher promise = Pattern.compile("(?m)^## Promise (\\d+): (\\w+)\\R\\R`([^`]*)`:").matcher(document);
        while (promise.find()) {
            promised.add(promise.group(3));
            CHECK.due("promise of " + promise.group(2), Integer.parseInt(promise.group(1)), promised.size() + 1);
            CHECK.same("promise " + promise.group(1), promise.group(3).contains(" " + promise.group(2) + "("), true);
        }
        CHECK.same("promises", promised, faceCalls(document));
    }

    /** "Ahead of the calls .. the interface says: ----": these lines stand in the class ahead of just these calls. */
    private static void ahead(String document, String source) {
        List<String> due = new ArrayList<>();
        Matcher told = Pattern.compile("(?m)^Ahead of the calls (.*) the interface says: (---- .*)\\.$").matcher(document);
        while (told.find()) {
            due.add("// " + told.group(2));
            due.addAll(Arrays.asList(told.group(1).replace("`", "").split(", ")));
        }
        CHECK.due("calls and what stands ahead of them", due.size(), 36 + 5);
        List<String> stands = new ArrayList<>();
        Matcher line = Pattern.compile("(?m)^    (?:(// ---- .*)|public (?:int|long) (\\w+)\\(.*)$").matcher(source);
        while (line.find()) {
            stands.add(line.group(1) == null ? line.group(2) : line.group(1));
        }
        CHECK.same("what stands ahead of the calls", stands.subList(0, Math.min(due.size(), stands.size())), due);
    }

    private static void text(String source) {
        String code = source.replaceAll("(?s)/\\*.*?\\*/", "").replaceAll("//[^\n]*", "");
        String words = "throw|throws|try|catch|finally|synchronized|assert|instanceof|package|protected|volatile|"
                + "native|transient|float|double|var|Object|System\\.(?!arraycopy)|\\w+Exact|Thread|Random|->|::|@";
        Matcher banned = Pattern.compile("\\b(" + words + ")\\b|->|::|@").matcher(code);
        while (banned.find()) {
            CHECK.same("a word that the rules leave out", banned.group(), "none");
        }
        Matcher imports = Pattern.compile("import ([\\w.]+);").matcher(code);
        while (imports.find()) {
            CHECK.same("imports", imports.group(1), "java.util.Arrays");
        }
        Matcher library = Pattern.compile("\\b(?:Arrays|Integer|Long|Math|System|String|Character|List)\\.\\w+").matcher(code);
        while (library.find()) {
            CHECK.same(library.group() + " is left by the rules", LIBRARY.contains(library.group()), true);
        }
        CHECK.same("signs of the source are 10 and 32 to 126", source.matches("[\\n -~]*"), true);
        shortMethods(code);
        noNewInMethods(code);
    }

    private static void shortMethods(String code) {
        Matcher method = Pattern.compile("(?m)^( {4}| {8})\\S[^\n;=]*\\) \\{$(?s:.*?)^\\1\\}$").matcher(code);
        int seen = 0;
        while (method.find()) {
            seen++;
            long lines = method.group().lines().count();
            CHECK.same(method.group().lines().findFirst().orElse("") + " is short", lines <= 60, true);
        }
        CHECK.same("methods were seen", seen > 80, true);
    }

    /** All rows are made with the object: new stands in fields and constructors alone. */
    private static void noNewInMethods(String code) {
        Matcher method = Pattern.compile("(?m)^ +(private |public |static )*(int|long|boolean|void|Text) \\w+\\([^)]*\\) \\{$")
                .matcher(code);
        while (method.find()) {
            int depth = 1;
            int at = method.end();
            while (depth > 0 && at < code.length()) {
                depth += code.charAt(at) == '{' ? 1 : code.charAt(at) == '}' ? -1 : 0;
                at++;
            }
            boolean makes = Pattern.compile("\\bnew\\b").matcher(code.substring(method.end(), at)).find();
            CHECK.same(method.group().trim() + " makes rows", makes, false);
        }
    }
}
