import java.lang.reflect.Constructor;
import java.lang.reflect.Field;
import java.lang.reflect.Method;
import java.lang.reflect.Modifier;
import java.util.Arrays;
import java.util.HashSet;
import java.util.Set;
import java.util.TreeSet;
import java.util.regex.Matcher;
import java.util.regex.Pattern;
import java.util.stream.Collectors;

/** The class has the face of the document, and nothing else can be seen from outside. */
public final class FaceTest {
    private static final Set<String> FACE = Set.of(
            "void area(4) IllegalArgumentException",
            "int tiles(4) IllegalStateException IllegalArgumentException",
            "int component(2) IllegalArgumentException IllegalStateException",
            "void coding(4) NoSuchElementException IllegalArgumentException",
            "void precincts(4) NoSuchElementException IllegalArgumentException",
            "int tile(2) NoSuchElementException",
            "int part(3) NoSuchElementException",
            "int level(4) NoSuchElementException",
            "int band(5) NoSuchElementException",
            "int precinct(5) NoSuchElementException",
            "int share(6) NoSuchElementException",
            "int block(7) NoSuchElementException",
            "int where(3) NoSuchElementException",
            "int coefficient(5) NoSuchElementException");

    private static final Pattern SIGNATURE = Pattern.compile(
            "public (\\w+) (\\w+)\\(([^)]*)\\) throws ([^;]+);");

    private static int wrong = 0;

    public static void main(String[] args) {
        Class<?> canvas = PictureCanvas.class;
        check(Modifier.isFinal(canvas.getModifiers()), "the class is final");
        check(Modifier.isPublic(canvas.getModifiers()), "the class is public");
        document();
        methods(canvas);
        constructors(canvas);
        for (Field field : canvas.getDeclaredFields()) {
            check(Modifier.isPrivate(field.getModifiers()), "private: " + field);
        }
        for (Class<?> inside : canvas.getDeclaredClasses()) {
            check(Modifier.isStatic(inside.getModifiers()), "static: " + inside);
            check(!Modifier.isPublic(inside.getModifiers()), "not public: " + inside);
        }
        System.out.println(wrong + " wrong");
        if (wrong != 0) {
            System.exit(1);
        }
    }

    /** That the face above is the one of the document. */
    private static void document() {
        String section = Document.section("The public face");
        if (section.isEmpty()) {
            System.out.println("the document is not here: its face is not looked up");
            return;
        }
        Set<String> face = new HashSet<>();
        Matcher signature = SIGNATURE.matcher(section);
        while (signature.find()) {
            face.add(signature.group(1) + " " + signature.group(2) + "("
                    + signature.group(3).split(", ").length + ") "
                    + signature.group(4).replace(",", ""));
        }
        check(face.equals(FACE), "the face is the document's, which is " + face);
    }

    private static void methods(Class<?> canvas) {
        Set<String> face = new HashSet<>();
        Set<String> publicNames = new TreeSet<>();
        for (Method method : canvas.getDeclaredMethods()) {
            if (Modifier.isPublic(method.getModifiers())) {
                face.add(shown(method));
                publicNames.add(method.getName());
            }
        }
        check(face.equals(FACE), "the document's methods, not " + face);
        for (Method method : canvas.getDeclaredMethods()) {
            boolean isPublic = Modifier.isPublic(method.getModifiers());
            check(isPublic || Modifier.isPrivate(method.getModifiers()), "private: " + method);
            check(isPublic || !publicNames.contains(method.getName()), "own name: " + method);
            check(method.getParameterCount() <= 7, "at most seven parameters: " + method);
        }
    }

    private static void constructors(Class<?> canvas) {
        Constructor<?>[] all = canvas.getDeclaredConstructors();
        check(all.length == 1 && all[0].getParameterCount() == 0
                && Modifier.isPublic(all[0].getModifiers()), "one public constructor");
    }

    private static String shown(Method method) {
        boolean allInt = Arrays.stream(method.getParameterTypes()).allMatch(int.class::equals);
        return method.getReturnType() + " " + method.getName() + "("
                + (allInt ? method.getParameterCount() : "?") + ") "
                + Arrays.stream(method.getExceptionTypes()).map(Class::getSimpleName)
                        .collect(Collectors.joining(" "));
    }

    private static void check(boolean holds, String what) {
        if (!holds) {
            wrong++;
            System.out.println("not so: " + what);
        }
    }
}
