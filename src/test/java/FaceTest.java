import java.io.IOException;
import java.lang.reflect.Constructor;
import java.lang.reflect.Field;
import java.lang.reflect.Method;
import java.lang.reflect.Modifier;
import java.nio.file.Files;
import java.nio.file.Path;
import java.util.Arrays;
import java.util.Set;
import java.util.TreeSet;
import java.util.regex.Matcher;
import java.util.regex.Pattern;

/** The public face as the document lists it, and the rules of LANGUAGE.md that can be seen in the text. */
public final class FaceTest {
    private static final Check CHECK = new Check();
    private static final String FACE = "int type(int,int) int wipe(int) int undo(int) int fault(int)"
            + " int thing(int,int) int person(int,int) int sit(int,int,int) int window(int,int) int back(int)"
            + " int read(int) int layers(int,int,int) int strong(int,int,int) int tells(int,int) int nowhere(int)"
            + " int last(int,int) int together(int) int hide(int,int,int,int) int frame(int,int,int,int,int)"
            + " int air(int,int,int,int) int known(int) int smelt(int,int,int) int forget() int when(int,int)"
            + " int who(int) int stand(int,int) long draughts(int,int,int,int,int) long found(int,int,int,int)"
            + " int day(int,int,int) int sheet(int,int,int) int lose(int) int put(int,int,int,int)"
            + " int get(int,int,int) int copy(int,int,int,int,int) int write(int,int) int count(int) long digest()";

    public static void main(String[] args) throws IOException {
        face();
        text(Files.readString(Path.of("src/main/java/ChairSmells.java")));
        CHECK.end();
    }

    private static void face() {
        Class<?> face = ChairSmells.class;
        CHECK.same("public and final", Modifier.toString(face.getModifiers()), "public final");
        Set<String> methods = new TreeSet<>();
        Set<String> publicNames = new TreeSet<>();
        for (Method method : face.getDeclaredMethods()) {
            if (!Modifier.isPrivate(method.getModifiers())) {
                CHECK.same(method.getName(), Modifier.toString(method.getModifiers()), "public");
                publicNames.add(method.getName());
                String types = Arrays.toString(method.getParameterTypes()).replaceAll("[\\[\\] ]", "");
                methods.add(method.getReturnType() + " " + method.getName() + "(" + types + ")");
            }
        }
        Set<String> due = new TreeSet<>(Arrays.asList(FACE.split(" (?=int [a-z]|long [a-z])")));
        CHECK.same("methods", methods, due);
        Set<String> fields = new TreeSet<>();
        for (Field field : face.getDeclaredFields()) {
            if (!Modifier.isPrivate(field.getModifiers())) {
                fields.add(Modifier.toString(field.getModifiers()) + " " + field.getType() + " " + field.getName());
            }
        }
        CHECK.same("constants", fields.toString(), "[public static final int BAD, public static final int FULL,"
                + " public static final int NONE, public static final int NOT]");
        CHECK.due("NONE", ChairSmells.NONE, -1);
        CHECK.due("BAD", ChairSmells.BAD, -2);
        CHECK.due("NOT", ChairSmells.NOT, -3);
        CHECK.due("FULL", ChairSmells.FULL, -4);
        Constructor<?>[] made = face.getDeclaredConstructors();
        CHECK.due("constructors", made.length, 1);
        CHECK.same("constructor", made[0].toString(), "public ChairSmells()");
        for (Class<?> inside : face.getDeclaredClasses()) {
            CHECK.same(inside + " is static", Modifier.isStatic(inside.getModifiers()), true);
            CHECK.same(inside + " has few fields", inside.getDeclaredFields().length <= 20, true);
            for (Method method : inside.getDeclaredMethods()) {
                CHECK.same(method + " bears a public name", publicNames.contains(method.getName()), false);
                CHECK.same(method + " has few parameters", method.getParameterCount() <= 7, true);
            }
        }
        CHECK.same("few classes", face.getDeclaredClasses().length <= 11, true);
    }

    private static void text(String source) {
        String code = source.replaceAll("(?s)/\\*.*?\\*/", "").replaceAll("//[^\n]*", "");
        String words = "throw|throws|try|catch|finally|synchronized|assert|instanceof|package|protected|volatile|"
                + "native|transient|float|double|var|Object|System\\.(?!arraycopy)|\\w+Exact|Thread|Random|->|::|@";
        Matcher banned = Pattern.compile("\\b(" + words + ")\\b|->|::|@").matcher(code);
        while (banned.find()) {
            CHECK.same("a word that the rules leave out", banned.group(), "none");
        }
        Matcher imports = Pattern.compile("import ([\\w.]+);").matcher(code);
        while (imports.find()) {
            CHECK.same("imports", imports.group(1), "java.util.Arrays");
        }
        shortMethods(code);
        noNewInMethods(code);
    }

    private static void shortMethods(String code) {
        Matcher method = Pattern.compile("(?m)^( {4}| {8})\\S[^\n;=]*\\) \\{$(?s:.*?)^\\1\\}$").matcher(code);
        int seen = 0;
        while (method.find()) {
            seen++;
            long lines = method.group().lines().count();
            CHECK.same(method.group().lines().findFirst().orElse("") + " is short", lines <= 60, true);
        }
        CHECK.same("methods were seen", seen > 80, true);
    }

    /** All rows are made with the object: new stands in fields and constructors alone. */
    private static void noNewInMethods(String code) {
        Matcher method = Pattern.compile("(?m)^ +(private |public |static )*(int|long|boolean|void|Text) \\w+\\([^)]*\\) \\{$")
                .matcher(code);
        while (method.find()) {
            int depth = 1;
            int at = method.end();
            while (depth > 0 && at < code.length()) {
                depth += code.charAt(at) == '{' ? 1 : code.charAt(at) == '}' ? -1 : 0;
                at++;
            }
            boolean makes = Pattern.compile("\\bnew\\b").matcher(code.substring(method.end(), at)).find();
            CHECK.same(method.group().trim() + " makes rows", makes, false);
        }
    }
}
