import java.lang.reflect.Constructor;
import java.lang.reflect.Field;
import java.lang.reflect.Method;
import java.lang.reflect.Modifier;
import java.util.ArrayList;
import java.util.Arrays;
import java.util.List;

/** The public face is the document's and no more, and the parts of LANGUAGE.md that a compiled class shows. */
final class FaceTest {
    private static final String[] FACE = {
        "boolean feed(int, int) []",
        "int open() [IllegalArgumentException]",
        "int fault(int) []",
        "int chunks() []",
        "long event(int, int) [IndexOutOfBoundsException, IllegalArgumentException]",
        "int kind(int, int) [IndexOutOfBoundsException]",
        "long value(int, int) [IndexOutOfBoundsException, NoSuchElementException]",
        "int letter(int, int, int) [IndexOutOfBoundsException, NoSuchElementException, IllegalArgumentException]",
        "boolean type(char) []",
        "int select(boolean) [IllegalArgumentException]",
        "int misfit() []",
        "int selected(int) [IndexOutOfBoundsException]",
        "long fold(int, int) [IllegalArgumentException, NoSuchElementException]",
        "int group(int, int) []",
        "long grouped(int, int) [IndexOutOfBoundsException, IllegalArgumentException]"};

    public static void main(String[] args) {
        Class<?> face = FlightReader.class;
        Check.same("public and final", face.getModifiers(), Modifier.PUBLIC | Modifier.FINAL);
        Constructor<?>[] constructors = face.getDeclaredConstructors();
        Check.same("one constructor", constructors.length, 1);
        Check.same("without parameters", constructors[0].getParameterCount(), 0);
        Check.yes("public", Modifier.isPublic(constructors[0].getModifiers()));
        methods(face);
        for (Field field : face.getDeclaredFields()) {
            Check.yes("private: " + field, Modifier.isPrivate(field.getModifiers()));
        }
        Class<?>[] inside = face.getDeclaredClasses();
        Check.yes("at most twelve classes", inside.length < 12);
        for (Class<?> each : inside) {
            Check.yes("static: " + each, Modifier.isStatic(each.getModifiers()));
            shape(each);
        }
        shape(face);
        Check.end();
    }

    private static void methods(Class<?> face) {
        List<String> due = new ArrayList<>(Arrays.asList(FACE));
        List<String> names = new ArrayList<>();
        for (Method method : face.getDeclaredMethods()) {
            if (Modifier.isPublic(method.getModifiers())) {
                Check.yes("of the face: " + described(method), due.remove(described(method)));
                names.add(method.getName());
            }
        }
        Check.same("not there: " + due, due.size(), 0);
        for (Method method : face.getDeclaredMethods()) {
            if (!Modifier.isPublic(method.getModifiers())) {
                Check.yes("private: " + method, Modifier.isPrivate(method.getModifiers()));
                Check.no("a name of the face: " + method, names.contains(method.getName()));
            }
        }
    }

    private static String described(Method method) {
        List<String> parameters = new ArrayList<>();
        for (Class<?> parameter : method.getParameterTypes()) {
            parameters.add(parameter.getSimpleName());
        }
        List<String> exceptions = new ArrayList<>();
        for (Class<?> exception : method.getExceptionTypes()) {
            exceptions.add(exception.getSimpleName());
        }
        return method.getReturnType().getSimpleName() + " " + method.getName()
                + "(" + String.join(", ", parameters) + ") " + exceptions;
    }

    private static void shape(Class<?> each) {
        int fields = 0;
        for (Field field : each.getDeclaredFields()) {
            boolean constant = Modifier.isStatic(field.getModifiers());
            fields += constant ? 0 : 1;
            Check.no("static, not final: " + field, constant && !Modifier.isFinal(field.getModifiers()));
        }
        Check.yes("at most twenty fields: " + each, fields <= 20);
        for (Method method : each.getDeclaredMethods()) {
            Check.yes("at most seven parameters: " + method, method.getParameterCount() <= 7);
            Check.no("made for a lambda: " + method, method.isSynthetic());
        }
    }
}
