import java.lang.reflect.Constructor;
import java.lang.reflect.Field;
import java.lang.reflect.Method;
import java.lang.reflect.Modifier;
import java.nio.charset.StandardCharsets;
import java.nio.file.Files;
import java.nio.file.Path;
import java.util.ArrayList;
import java.util.List;
import java.util.Set;
import java.util.TreeSet;
import java.util.regex.Matcher;
import java.util.regex.Pattern;

/** The class has just the document's face, and keeps to those rules of LANGUAGE.md that can be seen from outside. */
public final class FaceTest {
    private static final String[] FACE = {
        "int feed(int,int,int,int,int)", "int told(int,int)", "int ask(int,int)", "int fault()",
        "boolean fraction(int,int,int)", "boolean root(int,int,int,int)", "boolean single(int,int,int,int,int,int)",
        "boolean join(int,int,int,int)", "int undo()", "int count(int)", "int of(int,int)", "int term(int,int)",
        "int read(int,int,boolean)", "long convergent(int,int,boolean)", "int nearest(int,int)",
        "long mediant(int,int,int,boolean)", "int compare(int,int)", "int alike(int,int)", "int again(int,int)",
        "int tails(int,int,int)", "int floor(int,int)", "int would(int,int,int,int,int,int)", "int often(int,int)",
        "int left(int,int,int)", "int say(int,int)", "int said(int)"};

    private static final String[] NOT_IN_THE_SOURCE = {
        "->", "::", "Exact(", "finally", "synchronized", "assert ", "catch", "System.", "@", "var ", "package ",
        "protected ", "double ", "float ", "Random", "Thread", "java.io", "java.time", ".equals(", "hashCode", "toString"};

    private FaceTest() {
    }

    public static void main(String[] args) throws Exception {
        face();
        nestedClasses();
        source(Files.readString(Path.of("src/main/java/TermRows.java"), StandardCharsets.ISO_8859_1));
        Check.end();
    }

    private static String written(Method method) {
        List<String> types = new ArrayList<>();
        for (Class<?> type : method.getParameterTypes()) {
            types.add(type.getName());
        }
        return method.getReturnType().getName() + " " + method.getName() + "(" + String.join(",", types) + ")";
    }

    private static void face() throws Exception {
        Set<String> want = new TreeSet<>(List.of(FACE));
        Set<String> open = new TreeSet<>();
        Set<String> names = new TreeSet<>();
        for (Method method : TermRows.class.getDeclaredMethods()) {
            if (!Modifier.isPrivate(method.getModifiers())) {
                open.add(written(method));
                names.add(method.getName());
                Check.due(method.getName() + " is public and no more", Modifier.PUBLIC, method.getModifiers());
            }
        }
        Check.due("methods", want.toString(), open.toString());
        for (Class<?> inside : classes()) {
            for (Method method : inside.getDeclaredMethods()) {
                boolean own = inside != TermRows.class || Modifier.isPrivate(method.getModifiers());
                Check.due(method.getName() + " bears a public name", false, own && names.contains(method.getName()));
                Check.due(method.getName() + " has over seven parameters", false, method.getParameterCount() > 7);
            }
        }
        Constructor<?>[] made = TermRows.class.getDeclaredConstructors();
        Check.due("constructors", 1, made.length);
        Check.due("constructor", Modifier.PUBLIC, made[0].getModifiers());
        Check.due("its parameters", 0, made[0].getParameterCount());
        Check.due("the class", Modifier.PUBLIC | Modifier.FINAL, TermRows.class.getModifiers());
        Check.due("NONE", -1, TermRows.NONE);
        Check.due("HIDDEN", -1000000000, TermRows.HIDDEN);
    }

    private static List<Class<?>> classes() {
        List<Class<?>> all = new ArrayList<>(List.of(TermRows.class.getDeclaredClasses()));
        all.add(TermRows.class);
        return all;
    }

    private static void nestedClasses() {
        Set<String> constants = new TreeSet<>();
        for (Class<?> inside : classes()) {
            Check.due(inside + " is static", true, inside == TermRows.class || Modifier.isStatic(inside.getModifiers()));
            int fields = 0;
            for (Field field : inside.getDeclaredFields()) {
                int how = field.getModifiers();
                if (inside == TermRows.class && !Modifier.isPrivate(how)) {
                    constants.add(field.getName());
                }
                Check.due(field + " is static and final", true, !Modifier.isStatic(how) || Modifier.isFinal(how));
                fields += Modifier.isStatic(how) ? 0 : 1;
            }
            Check.due(inside + " has over twenty fields", false, fields > 20);
        }
        Check.due("constants", "[HIDDEN, NONE]", constants.toString());
        Check.due("over twelve classes", false, classes().size() > 12);
    }

    private static void source(String source) {
        String code = source.replaceAll("(?s)/\\*.*?\\*/", "").replaceAll("//[^\n]*", "");
        for (String piece : NOT_IN_THE_SOURCE) {
            Check.due("the source has '" + piece + "'", false, code.contains(piece));
        }
        Matcher imports = Pattern.compile("import ([^;]*);").matcher(code);
        while (imports.find()) {
            Check.due("import", "java.util.NoSuchElementException", imports.group(1));
        }
        Matcher thrown = Pattern.compile("throw ([^;]*);").matcher(code);
        while (thrown.find()) {
            Check.due("throws " + thrown.group(1), true,
                thrown.group(1).matches("new (IllegalArgument|NoSuchElement)Exception\\(\"[^\"]*\"\\)"));
        }
        for (int i = 0; i < source.length(); i++) {
            char sign = source.charAt(i);
            Check.due("sign " + (int) sign, true, sign == '\n' || (sign >= 32 && sign < 127));
        }
        methodLengths(source);
    }

    /** A method begins with a line that opens a brace, and ends with the next brace of its depth. */
    private static void methodLengths(String source) {
        Matcher methods = Pattern.compile("(?m)^( {4}| {8})[^ }/*][^\n;=]*\\{\n(?:(?!\\1\\}\n).*\n)*\\1\\}\n").matcher(source);
        int from = 0;
        int found = 0;
        while (methods.find(from)) {
            boolean isClass = methods.group().contains(" class ");
            int lines = methods.group().split("\n").length;
            if (!isClass) {
                found++;
                Check.due("lines of " + methods.group().split("\n")[0].trim(), true, lines <= 60);
            }
            from = isClass ? source.indexOf('\n', methods.start()) + 1 : methods.end();
        }
        Check.due("methods were found", true, found > 100);
    }
}
