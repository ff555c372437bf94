import java.io.IOException;
import java.lang.reflect.Constructor;
import java.lang.reflect.Field;
import java.lang.reflect.Method;
import java.lang.reflect.Modifier;
import java.nio.file.Files;
import java.nio.file.Path;
import java.util.Arrays;
import java.util.TreeSet;
import java.util.regex.Matcher;
import java.util.regex.Pattern;

/** The public face, as the document has it, and what LANGUAGE.md rules out and can be seen. */
public final class FaceTest {
    private static final Path SOURCE = Path.of("src/main/java/TimeWords.java");
    private static final String INDEX = "IndexOutOfBoundsException";
    private static final String ARGUMENT = "IllegalArgumentException";
    private static final String STATE = "IllegalStateException";
    private static final String[] FACE = {
        "int unit/1 " + ARGUMENT + " " + STATE,
        "int clear/0",
        "int name/0 " + ARGUMENT + " " + STATE,
        "boolean reign/3 " + INDEX + " " + ARGUMENT,
        "int phase/5 " + INDEX + " " + ARGUMENT + " " + STATE,
        "int width/1 " + ARGUMENT,
        "int read/2 " + INDEX + " " + ARGUMENT + " " + STATE,
        "int span/2 " + ARGUMENT + " " + STATE,
        "int end/2 " + INDEX + " " + STATE,
        "boolean open/2 " + INDEX,
        "int join/2 " + INDEX + " " + STATE,
        "int relations/2 " + INDEX,
        "int relation/2 " + INDEX + " " + STATE,
        "int word/2 " + INDEX,
        "int near/0",
        "int feast/4 " + ARGUMENT,
        "int regnal/2 " + INDEX + " " + ARGUMENT + " " + STATE,
        "int count/1 " + INDEX,
    };

    public static void main(String[] args) throws IOException {
        Class<?> face = TimeWords.class;
        Check.due("modifiers of the class", face.getModifiers(), Modifier.PUBLIC | Modifier.FINAL);
        Check.due("NONE", TimeWords.NONE, -1);
        methods(face);
        fields(face);
        Constructor<?>[] constructors = face.getDeclaredConstructors();
        Check.due("constructors", constructors.length, 1);
        Check.due("a public one", Modifier.isPublic(constructors[0].getModifiers()), true);
        Check.due("without parameters", constructors[0].getParameterCount(), 0);
        source(Files.readString(SOURCE));
        Check.finish();
    }

    private static void methods(Class<?> face) {
        TreeSet<String> seen = new TreeSet<>();
        TreeSet<String> publicNames = new TreeSet<>();
        for (Method method : face.getDeclaredMethods()) {
            if (!Modifier.isPrivate(method.getModifiers())) {
                seen.add(tell(method));
                publicNames.add(method.getName());
            }
        }
        Check.due("the face", seen.toString(), new TreeSet<>(Arrays.asList(FACE)).toString());
        for (Class<?> part : face.getDeclaredClasses()) {
            Check.due(part + " is static", Modifier.isStatic(part.getModifiers()), true);
        }
        for (Method method : face.getDeclaredMethods()) {
            boolean hidden = Modifier.isPrivate(method.getModifiers());
            Check.due("private " + method + " bears a public name", hidden && publicNames.contains(method.getName()), false);
            Check.due("parameters of " + method + " are at most seven", method.getParameterCount() <= 7, true);
        }
    }

    private static String tell(Method method) {
        StringBuilder told = new StringBuilder();
        boolean plain = method.getModifiers() == Modifier.PUBLIC;
        told.append(plain ? "" : "not just public: ");
        told.append(method.getReturnType().getSimpleName()).append(' ').append(method.getName());
        told.append('/').append(method.getParameterCount());
        for (Class<?> thrown : method.getExceptionTypes()) {
            told.append(' ').append(thrown.getSimpleName());
        }
        for (Class<?> parameter : method.getParameterTypes()) {
            told.append(parameter == int.class ? "" : " with a parameter that is no int");
        }
        return told.toString();
    }

    private static void fields(Class<?> face) {
        for (Field field : face.getDeclaredFields()) {
            int modifiers = field.getModifiers();
            boolean isNone = field.getName().equals("NONE");
            Check.due(field + " is private", Modifier.isPrivate(modifiers), !isNone);
            Check.due(field + " changes for all objects", Modifier.isStatic(modifiers) && !Modifier.isFinal(modifiers), false);
        }
    }

    private static void source(String text) {
        String[] ruledOut = {"\\bcatch\\b", "\\bfinally\\b", "\\btry\\b", "\\bsynchronized\\b", "\\bassert\\b", "->", "::", "\\bpackage\\b",
            "Exact\\b", "\\bdouble\\b", "\\bfloat\\b", "static\\s*\\{", "\\bequals\\b", "\\bhashCode\\b", "\\btoString\\b", "\\binstanceof\\b"};
        for (String pattern : ruledOut) {
            Check.due("the source has " + pattern, Pattern.compile(pattern).matcher(text).find(), false);
        }
        Matcher imports = Pattern.compile("(?m)^import .*$").matcher(text);
        while (imports.find()) {
            Check.due("an import", imports.group(), "import java.util.ArrayList;");
        }
        for (char sign : text.toCharArray()) {
            Check.due("sign " + (int) sign + " is above 255", sign > 255, false);
        }
    }
}
