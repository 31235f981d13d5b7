import java.io.IOException;
import java.lang.reflect.Constructor;
import java.lang.reflect.Field;
import java.lang.reflect.Method;
import java.lang.reflect.Modifier;
import java.nio.charset.StandardCharsets;
import java.nio.file.Files;
import java.nio.file.Path;
import java.util.ArrayList;
import java.util.Arrays;
import java.util.List;
import java.util.TreeSet;

/** The face of the class, and what can be seen of LANGUAGE.md from outside. */
public final class FaceTest {
    private static final String[] FACE = {
        "int grain(int, int, int)", "int pass(int)", "int heat(int, int)", "int wash(int, int)", "int pace(int, int)",
        "int slip(int)", "int run(int, int, int, int)", "int withdraw(int)", "int swap(int, int)",
        "int print(int, int)", "int ofGrain(int, int)", "int ofRun(int, int)", "int span(int, int, int)",
        "int narrowed(int, boolean)", "int ofPrint(int, int)", "int lab(int)", "java.lang.String text(int)",
        "int left(int, int, int)", "int age(int, int, int, boolean)", "int fewest()", "int bestSwap(boolean)",
        "int changed(int, int)", "int wider(int, int)", "boolean isSound()", "long digest()"};

    private static final String[] FORBIDDEN = {"->", "::", "catch", "finally", "synchronized", "assert ", "instanceof",
        "Exact(", "static {", "System.", "Object", "toString() {", "hashCode", "\"+", "\" +", "+ \"", "package "};

    private FaceTest() {
    }

    public static void main(String[] args) throws IOException {
        methods();
        members();
        inside();
        source();
        Due.end();
    }

    private static String signature(Method method) {
        StringBuilder words = new StringBuilder(method.getReturnType().getName() + " " + method.getName() + "(");
        for (Class<?> kind : method.getParameterTypes()) {
            words.append(words.charAt(words.length() - 1) == '(' ? "" : ", ").append(kind.getName());
        }
        return words.append(')').toString();
    }

    private static void methods() {
        TreeSet<String> due = new TreeSet<>(Arrays.asList(FACE));
        TreeSet<String> got = new TreeSet<>();
        TreeSet<String> names = new TreeSet<>();
        for (Method method : Grainclock.class.getDeclaredMethods()) {
            if (!Modifier.isPrivate(method.getModifiers())) {
                got.add(signature(method));
                names.add(method.getName());
                Due.same(method + " is public", Modifier.isPublic(method.getModifiers()), true);
                Due.same(method + " is not static", Modifier.isStatic(method.getModifiers()), false);
            }
        }
        Due.same("the public methods", got.toString(), due.toString());
        for (Method method : Grainclock.class.getDeclaredMethods()) {
            if (Modifier.isPrivate(method.getModifiers())) {
                Due.same(method + " bears the name of a public one", names.contains(method.getName()), false);
            }
        }
    }

    private static void members() {
        int modifiers = Grainclock.class.getModifiers();
        Due.same("public and final", Modifier.isPublic(modifiers) && Modifier.isFinal(modifiers), true);
        Constructor<?>[] all = Grainclock.class.getDeclaredConstructors();
        Due.same("constructors", all.length, 1);
        Due.same("a public constructor", Modifier.isPublic(all[0].getModifiers()), true);
        Due.same("of no arguments", all[0].getParameterCount(), 0);
        for (Field field : Grainclock.class.getDeclaredFields()) {
            Due.same(field + " is private", Modifier.isPrivate(field.getModifiers()), true);
            if (Modifier.isStatic(field.getModifiers())) {
                Due.same(field + " is final", Modifier.isFinal(field.getModifiers()), true);
            }
        }
    }

    private static void inside() {
        Class<?>[] all = Grainclock.class.getDeclaredClasses();
        Due.same("at most twelve classes", all.length <= 12, true);
        for (Class<?> one : all) {
            int modifiers = one.getModifiers();
            Due.same(one + " is static", Modifier.isStatic(modifiers), true);
            Due.same(one + " is not seen", Modifier.isPublic(modifiers) || Modifier.isProtected(modifiers), false);
            Due.same(one + " has few fields", one.getDeclaredFields().length <= 20, true);
            for (Constructor<?> constructor : one.getDeclaredConstructors()) {
                Due.same(one + " takes few parameters", constructor.getParameterCount() <= 7, true);
            }
        }
    }

    private static void source() throws IOException {
        String text = Files.readString(Path.of("src/main/java/Grainclock.java"), StandardCharsets.US_ASCII);
        for (String word : FORBIDDEN) {
            Due.same("the source has " + word, text.contains(word), false);
        }
        List<String> imports = new ArrayList<>();
        for (String line : text.split("\n")) {
            if (line.startsWith("import ")) {
                imports.add(line);
            }
        }
        Due.same("imports", imports.toString(), "[import java.util.ArrayList;]");
    }
}
