import java.io.IOException;
import java.lang.reflect.Constructor;
import java.lang.reflect.Field;
import java.lang.reflect.Method;
import java.lang.reflect.Modifier;
import java.nio.charset.StandardCharsets;
import java.nio.file.Files;
import java.nio.file.Path;
import java.util.TreeSet;
import java.util.regex.Matcher;
import java.util.regex.Pattern;

/** The public face, as the document writes it, and the rules of LANGUAGE.md that can be read off the file. */
public final class FaceTest {
    private static final Checks checks = new Checks("FaceTest");
    private static final Path SOURCE = Path.of("src/main/java/Gravimere.java");

    private static final String[] FACE = {
        "int NONE = -1",
        "int MIRROR = 0",
        "int SPRING = 1",
        "long mass(int,int,int,long) IndexOutOfBoundsException IllegalArgumentException",
        "long water(int,int,long) IndexOutOfBoundsException IllegalArgumentException",
        "long pull(int,int) IndexOutOfBoundsException",
        "long pullAnew(int,int) IndexOutOfBoundsException",
        "long gap(int,int) IndexOutOfBoundsException",
        "int tide(int,int) IllegalArgumentException",
        "int pass(int) IllegalArgumentException IllegalStateException",
        "int needle(int,int) IllegalArgumentException IllegalStateException",
        "long tie(int) IndexOutOfBoundsException IllegalStateException",
        "long read(int,int,int) IndexOutOfBoundsException",
        "int benchmark() IllegalStateException",
        "int line(int,int,int,int) IndexOutOfBoundsException IllegalArgumentException IllegalStateException",
        "int height(int) IndexOutOfBoundsException IllegalStateException",
        "int doubt(int) IndexOutOfBoundsException",
        "int doubtAnew(int) IndexOutOfBoundsException",
        "boolean isInConflict(int) IndexOutOfBoundsException",
        "int release() IllegalStateException",
        "long trend(int,int,int,int) IndexOutOfBoundsException IllegalStateException",
    };

    public static void main(String[] args) throws IllegalAccessException, IOException {
        testFace();
        testNestedClasses();
        testWordsLeftOut();
        testMethodsAreShort();
        checks.finish();
    }

    private static void testFace() throws IllegalAccessException {
        TreeSet<String> due = new TreeSet<>();
        for (String member : FACE) {
            due.add(member);
        }
        TreeSet<String> got = new TreeSet<>();
        TreeSet<String> hidden = new TreeSet<>();
        for (Field field : Gravimere.class.getDeclaredFields()) {
            if (!Modifier.isPrivate(field.getModifiers())) {
                boolean isConstant = field.getModifiers() == (Modifier.PUBLIC | Modifier.STATIC | Modifier.FINAL);
                got.add(field.getType() + " " + field.getName() + " = " + (isConstant ? field.getInt(null) : "no constant"));
            }
            if (Modifier.isStatic(field.getModifiers())) {
                checks.due("static and final: " + field.getName(), Modifier.isFinal(field.getModifiers()), true);
            }
        }
        for (Method method : Gravimere.class.getDeclaredMethods()) {
            if (Modifier.isPrivate(method.getModifiers())) {
                hidden.add(method.getName());
            } else {
                got.add(faceOf(method));
            }
        }
        checks.due("the face", got, due);
        for (String member : due) {
            String name = member.replaceAll("^\\w+ (\\w+).*", "$1");
            checks.due("a private method of the name " + name, hidden.contains(name), false);
        }
        Constructor<?>[] constructors = Gravimere.class.getDeclaredConstructors();
        checks.due("the constructors", constructors.length, 1);
        checks.due("the constructor's arguments", constructors[0].getParameterCount(), 0);
        checks.due("the constructor is public", constructors[0].getModifiers(), Modifier.PUBLIC);
        checks.due("the class is public and final", Gravimere.class.getModifiers(), Modifier.PUBLIC | Modifier.FINAL);
        checks.due("the class above", Gravimere.class.getSuperclass(), Object.class);
        checks.due("the interfaces", Gravimere.class.getInterfaces().length, 0);
    }

    private static String faceOf(Method method) {
        StringBuilder face = new StringBuilder();
        face.append(method.getModifiers() == Modifier.PUBLIC ? "" : "not just public: ");
        face.append(method.getReturnType()).append(' ').append(method.getName()).append('(');
        for (int at = 0; at < method.getParameterCount(); at++) {
            face.append(at == 0 ? "" : ",").append(method.getParameterTypes()[at]);
        }
        face.append(')');
        for (Class<?> thrown : method.getExceptionTypes()) {
            face.append(' ').append(thrown.getSimpleName());
        }
        return face.toString();
    }

    private static void testNestedClasses() {
        Class<?>[] nested = Gravimere.class.getDeclaredClasses();
        checks.due("at most some twelve classes", nested.length < 12, true);
        for (Class<?> inside : nested) {
            int modifiers = inside.getModifiers();
            checks.due(inside + " is hidden", Modifier.isPublic(modifiers) || Modifier.isProtected(modifiers), false);
            checks.due(inside + " is static", Modifier.isStatic(modifiers), true);
            checks.due(inside + " has at most twenty fields", inside.getDeclaredFields().length <= 20, true);
            for (Method method : inside.getDeclaredMethods()) {
                checks.due(method + " takes at most seven parameters", method.getParameterCount() <= 7, true);
            }
            for (Field field : inside.getDeclaredFields()) {
                boolean isState = Modifier.isStatic(field.getModifiers()) && !Modifier.isFinal(field.getModifiers());
                checks.due(field + " is no static state", isState, false);
            }
        }
    }

    private static void testWordsLeftOut() throws IOException {
        String source = withoutComments(Files.readString(SOURCE, StandardCharsets.UTF_8));
        String[] out = {
            "\\btry\\b", "\\bcatch\\b", "\\bfinally\\b", "\\bsynchronized\\b", "\\bassert\\b", "\\bimport\\b",
            "\\bpackage\\b", "->", "::", "\\w+Exact\\b", "\\bvar\\b", "\\bthread\\b", "\\bSystem\\.(?!arraycopy\\b)",
            "\\bRandom\\b", "\\bnative\\b", "\\bvolatile\\b", "\\bstatic\\s*\\{", "@\\w+", "\\bprotected\\b",
            "\\b(equals|hashCode|toString)\\b", "\\b(double|float)\\b", "\\bwhile\\s*\\(\\s*true", "\\bfor\\s*\\(\\s*;",
        };
        for (String words : out) {
            checks.due("a place of " + words, Pattern.compile(words).matcher(source).find(), false);
        }
        Matcher thrown = Pattern.compile("throw\\s+(?!new (IndexOutOfBounds|IllegalArgument|IllegalState)Exception\\(\"[^\"]*\"\\);)")
                .matcher(source);
        checks.due("another way to throw", thrown.find(), false);
        for (int at = 0; at < source.length(); at++) {
            if (source.charAt(at) > 127) {
                checks.due("the sign at " + at, source.charAt(at), "a sign of 1 to 127");
            }
        }
    }

    private static String withoutComments(String source) {
        return source.replaceAll("(?s)/\\*.*?\\*/", "").replaceAll("//[^\n]*", "");
    }

    private static void testMethodsAreShort() throws IOException {
        int length = 0;
        for (String line : Files.readAllLines(SOURCE, StandardCharsets.UTF_8)) {
            length = line.isBlank() ? 0 : length + 1;
            checks.due("a run of lines without a gap is below 60", length < 60, true);
            checks.due("a line's length is at most 120", line.length() <= 120, true);
        }
    }
}
