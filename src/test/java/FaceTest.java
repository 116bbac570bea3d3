import java.lang.reflect.Constructor;
import java.lang.reflect.Field;
import java.lang.reflect.Method;
import java.lang.reflect.Modifier;
import java.nio.file.Files;
import java.nio.file.Path;
import java.util.Arrays;
import java.util.TreeSet;

/** The public face, and those rules of the language that can be seen without reading the code. */
public final class FaceTest {
    private static final String[] FACE = {
        "boolean type(char)", "void clear()", "int length()", "int at(int)", "int nodes()",
        "int edge(int,int)", "int begins(int)", "int item(boolean,int,int,int,int)",
        "boolean dots(int,int,int,int)", "boolean plus(int,int,int,int)", "void forget()",
        "int matches()", "int match(int)", "boolean hit(int,int)", "int apply()"};
    private static final String[] RULED_OUT = {
        "throw", "try", "catch", "synchronized", "assert", "import", "package", "->", "::"};

    public static void main(String[] args) throws Exception {
        publicMethodsAreTheDocuments();
        nothingElseIsVisible();
        classesInsideAreStatic();
        namesOfTheFaceAreUsedOnce();
        ruledOutWordsAreAbsent();
        Check.end();
    }

    private static void publicMethodsAreTheDocuments() {
        TreeSet<String> names = new TreeSet<>();
        for (Method method : PathPatcher.class.getDeclaredMethods()) {
            if (Modifier.isPublic(method.getModifiers())) {
                String types = Arrays.toString(
                    Arrays.stream(method.getParameterTypes()).map(Class::getName).toArray());
                names.add(method.getReturnType().getName() + " " + method.getName() + "("
                    + types.substring(1, types.length() - 1).replace(" ", "") + ")");
            }
        }
        Check.same("the face", names.toString(), new TreeSet<>(Arrays.asList(FACE)).toString());
    }

    private static void nothingElseIsVisible() {
        int mask = PathPatcher.class.getModifiers();
        Check.same("public", Modifier.isPublic(mask), true);
        Check.same("final", Modifier.isFinal(mask), true);
        for (Field field : PathPatcher.class.getDeclaredFields()) {
            Check.same(field.getName() + " is private", Modifier.isPrivate(field.getModifiers()), true);
        }
        for (Method method : PathPatcher.class.getDeclaredMethods()) {
            int own = method.getModifiers();
            Check.same(method.getName() + " is public or private",
                Modifier.isPublic(own) || Modifier.isPrivate(own), true);
        }
        Constructor<?>[] constructors = PathPatcher.class.getDeclaredConstructors();
        Check.same("constructors", constructors.length, 1);
        Check.same("constructor is public", Modifier.isPublic(constructors[0].getModifiers()), true);
    }

    private static void classesInsideAreStatic() {
        Class<?>[] inside = PathPatcher.class.getDeclaredClasses();
        Check.same("at most twelve classes", inside.length < 12, true);
        for (Class<?> one : inside) {
            Check.same(one.getName() + " is static", Modifier.isStatic(one.getModifiers()), true);
            Check.same(one.getName() + " has at most 20 fields", one.getDeclaredFields().length <= 20, true);
        }
    }

    /** No private method bears the name of a public one; none inside does either, to be plain. */
    private static void namesOfTheFaceAreUsedOnce() {
        TreeSet<String> face = new TreeSet<>();
        for (String method : FACE) {
            face.add(method.replaceAll("^\\w+ |\\(.*$", ""));
        }
        for (Method method : PathPatcher.class.getDeclaredMethods()) {
            boolean isPrivate = Modifier.isPrivate(method.getModifiers());
            Check.same(method + " bears the face's name", isPrivate && face.contains(method.getName()), false);
        }
        for (Class<?> one : PathPatcher.class.getDeclaredClasses()) {
            for (Method method : one.getDeclaredMethods()) {
                Check.same(method + " bears the face's name", face.contains(method.getName()), false);
                Check.same(method + " takes at most 7", method.getParameterCount() <= 7, true);
            }
        }
    }

    private static void ruledOutWordsAreAbsent() throws Exception {
        String code = Files.readString(Path.of("src/main/java/PathPatcher.java"));
        String bare = code.replaceAll("(?s)/\\*.*?\\*/", " ").replaceAll("//[^\n]*", " ");
        for (String word : RULED_OUT) {
            boolean isName = Character.isLetter(word.charAt(0));
            String wanted = isName ? "(?s).*\\b" + word + "\\b.*" : "(?s).*" + word + ".*";
            Check.same("the word " + word + " in the code", bare.matches(wanted), false);
        }
    }
}
