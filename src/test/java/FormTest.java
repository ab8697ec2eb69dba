import java.lang.reflect.Constructor;
import java.lang.reflect.Field;
import java.lang.reflect.Method;
import java.lang.reflect.Modifier;
import java.nio.file.Files;
import java.nio.file.Path;
import java.util.ArrayList;
import java.util.Arrays;
import java.util.List;
import java.util.Set;
import java.util.TreeSet;
import java.util.regex.Matcher;
import java.util.regex.Pattern;
import java.util.stream.Collectors;

/** The face is the document's, and the source keeps to what of LANGUAGE.md can be seen from outside. Arguments: the source, the document. */
public final class FormTest {
    private static final Check CHECK = new Check("FormTest");

    public static void main(String[] args) throws Exception {
        String source = Files.readString(Path.of(args[0]));
        String document = Files.readString(Path.of(args[1]));
        face(document);
        for (Class<?> inside : WarByHours.class.getDeclaredClasses()) {
            inside(inside);
        }
        words(withoutTexts(source));
        lengths(source);
        CHECK.finish();
    }

    private static void face(String document) {
        Set<String> due = new TreeSet<>();
        Matcher m = Pattern.compile("(?m)^    public (int|long) (\\w+)\\((.*)\\);$").matcher(document);
        while (m.find()) {
            String types = m.group(3).isEmpty() ? "" : Arrays.stream(m.group(3).split(", ")).map(p -> p.split(" ")[0]).collect(Collectors.joining(","));
            due.add(m.group(1) + " " + m.group(2) + "(" + types + ")");
        }
        CHECK.due("methods of the document's face", due.size(), 69);
        Set<String> got = new TreeSet<>();
        Set<String> hidden = new TreeSet<>();
        for (Method method : WarByHours.class.getDeclaredMethods()) {
            if (method.isSynthetic()) {
                continue;
            }
            String types = Arrays.stream(method.getParameterTypes()).map(Class::getName).collect(Collectors.joining(","));
            if (Modifier.isPublic(method.getModifiers())) {
                got.add(method.getReturnType() + " " + method.getName() + "(" + types + ")");
                CHECK.that(method + " is static", !Modifier.isStatic(method.getModifiers()));
            } else {
                CHECK.that(method + " is not private", Modifier.isPrivate(method.getModifiers()));
                hidden.add(method.getName());
            }
        }
        CHECK.that("the face is " + got + ", due is " + due, got.equals(due));
        hidden.retainAll(Arrays.stream(WarByHours.class.getMethods()).map(Method::getName).collect(Collectors.toSet()));
        CHECK.that("private methods with public names: " + hidden, hidden.isEmpty());
        for (Field field : WarByHours.class.getDeclaredFields()) {
            boolean isConstant = field.getName().equals("NONE");
            CHECK.that(field + " is seen", isConstant == Modifier.isPublic(field.getModifiers()));
            CHECK.that(field + " is not private", isConstant || Modifier.isPrivate(field.getModifiers()));
        }
        Constructor<?>[] constructors = WarByHours.class.getDeclaredConstructors();
        CHECK.that("one constructor, public, of nothing", constructors.length == 1 && constructors[0].getParameterCount() == 0
            && Modifier.isPublic(constructors[0].getModifiers()));
        CHECK.that("the class is public and final", WarByHours.class.getModifiers() == (Modifier.PUBLIC | Modifier.FINAL));
        CHECK.that("classes together", WarByHours.class.getDeclaredClasses().length + 1 <= 12);
        fields(WarByHours.class);
    }

    private static void inside(Class<?> inside) {
        CHECK.that(inside + " is not static", Modifier.isStatic(inside.getModifiers()));
        CHECK.that(inside + " has classes inside", inside.getDeclaredClasses().length == 0);
        Set<String> names = Arrays.stream(WarByHours.class.getMethods()).map(Method::getName).collect(Collectors.toSet());
        for (Method method : inside.getDeclaredMethods()) {
            CHECK.that(method + " has too many parameters", method.getParameterCount() <= 7);
            CHECK.that(method + " bears a public name", !names.contains(method.getName()));
        }
        fields(inside);
    }

    private static void fields(Class<?> of) {
        List<String> own = new ArrayList<>();
        for (Field field : of.getDeclaredFields()) {
            if (Modifier.isStatic(field.getModifiers())) {
                CHECK.that(field + " is static and not final", Modifier.isFinal(field.getModifiers()));
            } else {
                own.add(field.getName());
            }
        }
        CHECK.that(of + " has too many fields: " + own, own.size() <= 20);
    }

    private static String withoutTexts(String source) {
        return source.replaceAll("(?s)/\\*.*?\\*/", "").replaceAll("//.*", "").replaceAll("\"[^\"]*\"", "\"\"");
    }

    private static void words(String source) {
        for (String word : List.of("throw", "throws", "try", "catch", "synchronized", "assert", "protected", "transient", "volatile", "native",
                "Object", "Exception", "System\\.(?!arraycopy)\\w+", "Math\\.\\w*Exact", "Random", "Thread", "->", "::", "@\\w+", "var")) {
            Matcher m = Pattern.compile("(?<!\\w)" + word + "(?!\\w)").matcher(source);
            CHECK.that("the source has " + word, !m.find());
        }
        Matcher m = Pattern.compile("import ([\\w.]+);").matcher(source);
        while (m.find()) {
            CHECK.that("import " + m.group(1), Set.of("java.util.Arrays", "java.util.ArrayList", "java.util.List").contains(m.group(1)));
        }
        CHECK.that("signs beyond 127", source.chars().allMatch(c -> c < 128));
    }

    private static void lengths(String source) {
        Matcher m = Pattern.compile("(?m)^(    |        )(?!private static final class|/)[a-z][^;=]*\\) \\{\\n(?s:.*?)\\n\\1\\}$").matcher(source);
        int methods = 0;
        while (m.find()) {
            methods++;
            long lines = m.group().lines().count();
            CHECK.that("a method of " + lines + " lines: " + m.group().lines().findFirst().get(), lines <= 60);
        }
        CHECK.that("methods are found", methods > 100);
    }
}
