import java.lang.reflect.Constructor;
import java.lang.reflect.Field;
import java.lang.reflect.Method;
import java.lang.reflect.Modifier;
import java.nio.file.Files;
import java.nio.file.Path;
import java.util.ArrayList;
import java.util.List;
import java.util.Set;
import java.util.TreeSet;
import java.util.regex.Matcher;
import java.util.regex.Pattern;
import java.util.stream.Collectors;
import java.util.stream.Stream;

/** The face of the class as DOC.md writes it, and what can be seen of the rules of LANGUAGE.md. */
public final class FaceTest {
    private static final Path SOURCE = Path.of("src/main/java/TemplateScopes.java");
    private static final Path DOCUMENT = Path.of("../shared/DOC.md");

    public static void main(String[] args) throws Exception {
        face();
        members();
        words();
        sizes();
        Check.end("FaceTest");
    }

    /** The declarations between the braces of the document's face must be those of the class. */
    private static void face() throws Exception {
        Matcher block = Pattern.compile("(?s)public final class TemplateScopes \\{\n(.*?)\n\\}")
                .matcher(Files.readString(DOCUMENT));
        Check.is("the document has a face", block.find(), true);
        Set<String> due = Stream.of(block.group(1).split("\n")).map(FaceTest::plain)
                .collect(Collectors.toCollection(TreeSet::new));
        Set<String> got = new TreeSet<>();
        for (Constructor<?> constructor : TemplateScopes.class.getDeclaredConstructors()) {
            Check.is("the constructor is public", Modifier.isPublic(constructor.getModifiers()), true);
            got.add("public TemplateScopes(" + types(constructor.getParameterTypes(), ",") + ")");
        }
        for (Method method : TemplateScopes.class.getDeclaredMethods()) {
            if (Modifier.isPublic(method.getModifiers())) {
                String thrown = types(method.getExceptionTypes(), ",");
                got.add("public " + method.getReturnType() + " " + method.getName() + "("
                        + types(method.getParameterTypes(), ",") + ")" + (thrown.isEmpty() ? "" : " throws " + thrown));
            }
        }
        Check.is("the face", got, due);
        Check.is("the class is public and final", Modifier.toString(TemplateScopes.class.getModifiers()), "public final");
    }

    /** A declaration without the names of its parameters and without spare spaces. */
    private static String plain(String declaration) {
        return declaration.strip().replace(";", "").replaceAll("(int) \\w+(?=[,)])", "$1").replace(", ", ",");
    }

    private static String types(Class<?>[] types, String between) {
        return Stream.of(types).map(Class::getSimpleName).collect(Collectors.joining(between));
    }

    private static void members() {
        Set<String> names = new TreeSet<>();
        for (Method method : TemplateScopes.class.getDeclaredMethods()) {
            if (Modifier.isPublic(method.getModifiers())) {
                names.add(method.getName());
            }
        }
        for (Field field : TemplateScopes.class.getDeclaredFields()) {
            Check.is("a field is private: " + field, Modifier.isPrivate(field.getModifiers()) || field.isSynthetic(), true);
        }
        for (Method method : TemplateScopes.class.getDeclaredMethods()) {
            Check.is("a method is public or private: " + method,
                    (method.getModifiers() & (Modifier.PUBLIC | Modifier.PRIVATE)) != 0 || method.isSynthetic(), true);
        }
        List<Class<?>> classes = new ArrayList<>(List.of(TemplateScopes.class.getDeclaredClasses()));
        for (Class<?> inner : classes) {
            Check.is("a class inside is private or package-visible: " + inner,
                    inner.getModifiers() & (Modifier.PUBLIC | Modifier.PROTECTED), 0);
        }
        classes.add(TemplateScopes.class);
        Check.is("some 12 classes", classes.size() <= 14, true);
        for (Class<?> type : classes) {
            int fields = 0;
            for (Field field : type.getDeclaredFields()) {
                boolean isStatic = Modifier.isStatic(field.getModifiers());
                fields += isStatic ? 0 : 1;
                Check.is("a static field is a constant: " + field, !isStatic || field.isSynthetic()
                        || Modifier.isFinal(field.getModifiers()) && isConstant(field.getType()), true);
            }
            Check.is("some 20 fields: " + type, fields <= 24, true);
            for (Method method : type.getDeclaredMethods()) {
                Check.is("at most 7 parameters: " + method, method.getParameterCount() <= 7, true);
                Check.is("no private method bears the name of a public one: " + method,
                        Modifier.isPrivate(method.getModifiers()) && names.contains(method.getName()), false);
            }
        }
    }

    private static boolean isConstant(Class<?> type) {
        return type.isEnum() || type.isArray() && type.getComponentType().isEnum() || Set.of(int.class, long.class, boolean.class,
                char.class, String.class, int[].class, long[].class, char[].class, byte[].class).contains(type);
    }

    /** Words that LANGUAGE.md rules out, outside of comments and texts. */
    private static void words() throws Exception {
        String code = Files.readString(SOURCE).replaceAll("(?s)/\\*.*?\\*/", "").replaceAll("//[^\n]*", "")
                .replaceAll("'(\\\\.|[^'])'", "0").replaceAll("\"[^\"]*\"", "T");
        for (String word : new String[] {"::", "(?m)^(?!\\s*(case|default)\\b).*->", "\\bfinally\\b", "\\bpackage\\b", "\\bassert\\b",
                "\\bsynchronized\\b", "\\bprotected\\b", "\\bDouble\\b", "\\bThread\\b", "Exact\\b", "\\bT \\+", "\\+ T\\b",
                "\\bhashCode\\b", "\\bimport (?!java\\.util\\.(ArrayList|List|Arrays|Iterator|NoSuchElementException);)",
                "\\bSystem\\.(?!arraycopy)", "\\bArrays\\.(?!copyOf|copyOfRange|fill)", "\\bMath\\.(?!compare|max|min|abs|floorDiv|floorMod)",
                "\\b(NullPointer|ArrayIndexOutOfBounds|ClassCast|NegativeArraySize|ArrayStore)Exception\\b",
                "\\bcatch \\((Exception|Throwable|Error)\\b"}) {
            Check.is("no " + word, Pattern.compile(word).matcher(code).find(), false);
        }
        Matcher thrown = Pattern.compile("\\bthrow\\b([^;]*);").matcher(code);
        while (thrown.find()) {
            Check.is("a throw of its own: " + thrown.group(), thrown.group(1).matches(" new (IllegalState|IllegalArgument|IndexOutOfBounds"
                    + "|Arithmetic|UnsupportedOperation|NoSuchElement|Runtime)(Exception)\\(T?\\)"), true);
        }
        Check.is("signs of the source", code.chars().allMatch(c -> c < 128), true);
    }

    private static void sizes() throws Exception {
        int begin = 0;
        int number = 0;
        for (String line : Files.readAllLines(SOURCE)) {
            number++;
            if (line.matches(" {4}( {4})?\\w[^=;]*\\(.*\\{") || line.matches(" {12}throws .*\\{")) {
                begin = number;
            }
            if (line.matches(" {4}( {4})?\\}")) {
                Check.is("some 60 lines of the method at line " + begin, begin == 0 || number - begin <= 65, true);
                begin = 0;
            }
        }
    }
}
