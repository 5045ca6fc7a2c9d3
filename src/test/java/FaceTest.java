import java.lang.reflect.Constructor;
import java.lang.reflect.Field;
import java.lang.reflect.Method;
import java.lang.reflect.Modifier;
import java.util.Arrays;
import java.util.TreeSet;
import java.util.stream.Collectors;

/** The class shows the document's face and nothing else. */
public final class FaceTest {
    private static final String[] FACE = {
        "PageDrive(int)",
        "NONE int -1",
        "int feed(long,int) IllegalArgumentException,IllegalStateException",
        "int append(int,int) IndexOutOfBoundsException,UnsupportedOperationException",
        "int cut(int,int) IndexOutOfBoundsException,NoSuchElementException,IllegalArgumentException",
        "boolean remove(int) IndexOutOfBoundsException",
        "int twin(int,int) IndexOutOfBoundsException,NoSuchElementException",
        "int sync(int) IndexOutOfBoundsException",
        "int crash(int,int) IndexOutOfBoundsException,IllegalArgumentException",
        "int crashAll(long)",
        "int file(int,int) IndexOutOfBoundsException",
        "int byteAt(int,boolean,int) IndexOutOfBoundsException",
        "int count(int)",
    };

    public static void main(String[] args) throws IllegalAccessException {
        Check check = new Check("FaceTest");
        TreeSet<String> shown = new TreeSet<>();
        for (Constructor<?> made : PageDrive.class.getDeclaredConstructors()) {
            if (!Modifier.isPrivate(made.getModifiers())) {
                shown.add("PageDrive(" + names(made.getParameterTypes()) + ")" + thrown(made.getExceptionTypes()));
            }
        }
        for (Field field : PageDrive.class.getDeclaredFields()) {
            if (!Modifier.isPrivate(field.getModifiers())) {
                shown.add(field.getName() + " " + field.getType().getSimpleName() + " " + field.get(null));
            }
        }
        for (Method method : PageDrive.class.getDeclaredMethods()) {
            if (!Modifier.isPrivate(method.getModifiers())) {
                shown.add(method.getReturnType().getSimpleName() + " " + method.getName() + "("
                        + names(method.getParameterTypes()) + ")" + thrown(method.getExceptionTypes()));
            }
        }
        check.compare("the face", new TreeSet<>(Arrays.asList(FACE)).toString(), shown.toString());
        check.compare("the class", "public final", Modifier.toString(PageDrive.class.getModifiers()));
        check.end();
    }

    private static String names(Class<?>[] types) {
        return Arrays.stream(types).map(Class::getSimpleName).collect(Collectors.joining(","));
    }

    private static String thrown(Class<?>[] types) {
        return types.length == 0 ? "" : " " + names(types);
    }
}
