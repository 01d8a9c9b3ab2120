import java.io.IOException;
import java.lang.reflect.Constructor;
import java.lang.reflect.Field;
import java.lang.reflect.Method;
import java.lang.reflect.Modifier;
import java.nio.charset.StandardCharsets;
import java.nio.file.Files;
import java.nio.file.Path;
import java.util.Set;
import java.util.TreeSet;
import java.util.regex.Matcher;
import java.util.regex.Pattern;

/** The face as the document writes it, and those rules of LANGUAGE.md that a pattern can look for. */
public final class FaceTest {
    private FaceTest() {
    }

    /** Arguments: the document and the program's file. */
    public static void main(String[] args) throws IOException {
        String document = Files.readString(Path.of(args[0]), StandardCharsets.UTF_8);
        String source = Files.readString(Path.of(args[1]), StandardCharsets.ISO_8859_1);
        Due.is("methods of the face", methodsOf(document).toString(), () -> methods().toString());
        members();
        language(source);
        Due.end("FaceTest");
    }

    private static Set<String> methodsOf(String document) {
        Set<String> found = new TreeSet<>();
        Matcher matcher = Pattern.compile("    public ([a-z]+ [a-zA-Z]+\\([^)]*\\)[^;]*);").matcher(document);
        while (matcher.find()) {
            found.add(matcher.group(1).replaceAll("(int|float|double|boolean) [a-zA-Z]+(?=[,)])", "$1")
                    .replaceAll("\\s+", " "));
        }
        return found;
    }

    private static Set<String> methods() {
        Set<String> found = new TreeSet<>();
        for (Method method : ParityGame.class.getDeclaredMethods()) {
            if (!Modifier.isPrivate(method.getModifiers()) && !method.isSynthetic()) {
                StringBuilder text = new StringBuilder();
                text.append(method.getReturnType().getSimpleName()).append(' ').append(method.getName()).append('(');
                for (Class<?> type : method.getParameterTypes()) {
                    text.append(text.charAt(text.length() - 1) == '(' ? "" : ", ").append(type.getSimpleName());
                }
                text.append(')');
                String before = " throws ";
                for (Class<?> type : method.getExceptionTypes()) {
                    text.append(before).append(type.getSimpleName());
                    before = ", ";
                }
                found.add(text.toString());
            }
        }
        return found;
    }

    private static void members() {
        Due.is("the class", Modifier.PUBLIC | Modifier.FINAL, () -> ParityGame.class.getModifiers());
        Set<String> names = new TreeSet<>();
        Set<String> twice = new TreeSet<>();
        for (Method method : ParityGame.class.getDeclaredMethods()) {
            if (!names.add(method.getName())) {
                twice.add(method.getName());
            }
        }
        Due.is("no name of two methods", "[]", () -> twice.toString());
        for (Class<?> inside : ParityGame.class.getDeclaredClasses()) {
            Due.is(inside + " static", true, () -> Modifier.isStatic(inside.getModifiers()));
            Due.is(inside + " not public", true, () -> (inside.getModifiers() & 5) == 0);
            for (Method method : inside.getDeclaredMethods()) {
                Due.is(inside + " " + method.getName(), false, () -> names.contains(method.getName()));
            }
        }
        for (Field field : ParityGame.class.getDeclaredFields()) {
            boolean open = field.getName().equals("NONE");
            Due.is(field.getName() + " private", !open, () -> Modifier.isPrivate(field.getModifiers()));
        }
        for (Constructor<?> constructor : ParityGame.class.getDeclaredConstructors()) {
            Due.is("the constructor", 0, () -> constructor.getParameterCount());
        }
    }

    private static void language(String source) {
        String code = source.replaceAll("(?s)/\\*.*?\\*/", "").replaceAll("//[^\n]*", "")
                .replaceAll("\"[^\"\n]*\"", "\"\"").replaceAll("'[^'\n]+'", "' '");
        Due.is("signs 1 to 126", true, () -> source.matches("[\n\\x20-\\x7e]*"));
        String[] forbidden = {"->", "::", "\\bcatch\\b", "\\bfinally\\b", "\\btry\\b", "\\bsynchronized\\b",
            "\\bassert\\b", "\\w+Exact\\b", "\\bpackage\\b", "\\bvar\\b", "\\bObject\\b", "\\blambda\\b", "\\bequals\\b",
            "\\bhashCode\\b", "\\btoString\\b", "\\bFloat\\b", "\\bDouble\\b", "@", "\\bprotected\\b", "\"\" *\\+",
            "\\+ *\"\"", "\\+= *\"\"", "\\bfor \\([^;]*:"};
        for (String pattern : forbidden) {
            Due.is("found: " + pattern, false, () -> Pattern.compile(pattern).matcher(code).find());
        }
        Matcher imports = Pattern.compile("import ([^;]*);").matcher(code);
        while (imports.find()) {
            String name = imports.group(1);
            Due.is("import", "java.util.NoSuchElementException", () -> name);
        }
        Matcher library = Pattern.compile("\\b(?:Integer|Math|System|Arrays|Long)\\.\\w+").matcher(code);
        while (library.find()) {
            String name = library.group();
            Set<String> allowed = Set.of("Integer.bitCount", "Math.max", "Math.min", "System.arraycopy");
            Due.is("library " + name, true, () -> allowed.contains(name));
        }
        Matcher statics = Pattern.compile("\\n[^\\n(;]*\\bstatic\\b[^\\n(;]*=").matcher(code);
        while (statics.find()) {
            String line = statics.group();
            Due.is("static" + line, true, () -> line.contains("static final int "));
        }
        lengths(code);
    }

    /** No method is longer than sixty lines. */
    private static void lengths(String code) {
        int begin = 0;
        int number = 0;
        for (String line : code.split("\n")) {
            number++;
            if (line.matches("( {4}| {8})[a-zA-Z].*\\).*\\{")) {
                begin = number;
            }
            if (line.matches(" {4}\\}| {8}\\}")) {
                int lines = number - begin;
                int at = number;
                Due.is("a method that ends on line " + at + " of the code is short", true, () -> lines <= 60 || at == 0);
                begin = number;
            }
        }
    }
}
