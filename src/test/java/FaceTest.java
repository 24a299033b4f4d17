import java.io.IOException;
import java.lang.reflect.Field;
import java.lang.reflect.Method;
import java.lang.reflect.Modifier;
import java.nio.file.Files;
import java.nio.file.Path;
import java.util.ArrayList;
import java.util.Arrays;
import java.util.Collections;
import java.util.List;

/** The document's face and no more, and some of the language's rules that can be seen in the text. */
public final class FaceTest {
    private static final String[] FACE = {
        "puddle int int int", "person int int int", "show int int", "of int int", "at int int", "type int", "read",
        "count int", "hours int", "rain int", "drive int", "send int", "later int int", "drift int", "undo", "seed int",
        "ahead int int", "claims int int", "then int", "served int", "dries int", "match", "latest int", "order int int",
        "wet int", "matters int int", "sight int int int", "carts int int int", "image", "restore",
        "dipped int int int int int int", "film int int int int int", "sheet int int int", "drop int",
        "item int int int long", "copy int int int int int"};
    private static final String[] CONSTANTS = {
        "BAD -1", "NOT -2", "FULL -3", "NONE -4", "NULL -11", "CAST -12", "INDEX -13", "SIZE -14"};
    /** Words that the program needs for nothing that the rules allow and the document asks for. */
    private static final String[] NOT_IN_THE_TEXT = {
        "import ", "package ", "->", "::", "try ", "catch", "throw", "synchronized", "assert ", "Random", "nanoTime",
        "currentTimeMillis", "getMessage", "Exact(", "static {", "double ", "float ", "\t"};

    public static void main(String[] args) throws ReflectiveOperationException, IOException {
        theMethods();
        theConstants();
        noPrivateMethodBearsAPublicName();
        theClassesInside();
        theText(Files.readString(Path.of(args[0])));
        Due.finish();
    }

    private static void theMethods() {
        List<String> found = new ArrayList<>();
        for (Method method : PuddleClaims.class.getDeclaredMethods()) {
            if (Modifier.isPrivate(method.getModifiers()) || method.isSynthetic()) {
                continue;
            }
            StringBuilder one = new StringBuilder(method.getName());
            for (Class<?> type : method.getParameterTypes()) {
                one.append(' ').append(type.getName());
            }
            Due.holds(one + " is public, of an object, an int", Modifier.isPublic(method.getModifiers())
                    && !Modifier.isStatic(method.getModifiers()) && method.getReturnType() == int.class);
            found.add(one.toString());
        }
        List<String> due = new ArrayList<>(Arrays.asList(FACE));
        Collections.sort(found);
        Collections.sort(due);
        Due.holds("the face " + due + ", found " + found, due.equals(found));
        Due.due("constructors", PuddleClaims.class.getDeclaredConstructors().length, 1);
        Due.holds("public and final", Modifier.isPublic(PuddleClaims.class.getModifiers())
                && Modifier.isFinal(PuddleClaims.class.getModifiers()));
    }

    private static void theConstants() throws ReflectiveOperationException {
        List<String> found = new ArrayList<>();
        for (Field field : PuddleClaims.class.getDeclaredFields()) {
            if (Modifier.isPrivate(field.getModifiers())) {
                continue;
            }
            Due.holds(field + " is a public constant", Modifier.isPublic(field.getModifiers())
                    && Modifier.isStatic(field.getModifiers()) && Modifier.isFinal(field.getModifiers()));
            found.add(field.getName() + " " + field.getInt(null));
        }
        Due.holds("the constants, found " + found, found.equals(Arrays.asList(CONSTANTS)));
    }

    private static void noPrivateMethodBearsAPublicName() {
        List<Class<?>> classes = new ArrayList<>(Arrays.asList(PuddleClaims.class.getDeclaredClasses()));
        Due.holds("at most some twelve classes", classes.size() < 12);
        classes.add(PuddleClaims.class);
        for (Class<?> one : classes) {
            theFieldsOf(one);
            for (Method method : one.getDeclaredMethods()) {
                Due.holds("parameters of " + method, method.getParameterCount() <= 7);
                if (one == PuddleClaims.class && Modifier.isPublic(method.getModifiers())) {
                    continue;
                }
                for (String face : FACE) {
                    Due.holds(method + " bears a public name", !method.getName().equals(face.split(" ")[0]));
                }
            }
        }
    }

    private static void theFieldsOf(Class<?> one) {
        int ofObjects = 0;
        for (Field field : one.getDeclaredFields()) {
            boolean isStatic = Modifier.isStatic(field.getModifiers());
            ofObjects += isStatic ? 0 : 1;
            Due.holds(field + " is a constant", !isStatic || Modifier.isFinal(field.getModifiers()));
        }
        Due.holds("at most some twenty fields: " + one, ofObjects <= 20);
    }

    private static void theClassesInside() {
        for (Class<?> one : PuddleClaims.class.getDeclaredClasses()) {
            int is = one.getModifiers();
            Due.holds(one + " is static, and private or package-visible",
                    Modifier.isStatic(is) && !Modifier.isPublic(is) && !Modifier.isProtected(is));
        }
    }

    private static void theText(String text) {
        for (String word : NOT_IN_THE_TEXT) {
            Due.holds("'" + word + "' is not in the text", !text.contains(word));
        }
        for (int k = 0; k < text.length(); k++) {
            if (text.charAt(k) > 126) {
                Due.due("a sign at " + k, text.charAt(k), 126);
            }
        }
    }
}
