import java.lang.reflect.Constructor;
import java.lang.reflect.Field;
import java.lang.reflect.Method;
import java.lang.reflect.Modifier;
import java.util.Set;
import java.util.TreeSet;

/** The public face of the document, and rule 1 of LANGUAGE.md: nothing beside it can be seen. */
public final class FaceTest {
    private static final Set<String> METHODS = Set.of(
        "void begin(int,int,int,int) IllegalArgumentException IllegalStateException",
        "int step(int) IllegalArgumentException IllegalStateException",
        "int answer(int) IllegalArgumentException NoSuchElementException",
        "int look(int,int) IllegalArgumentException",
        "int page(int,int) IllegalArgumentException",
        "int entry(int,int,boolean) NoSuchElementException",
        "int root()",
        "int queued()",
        "int under(int) NoSuchElementException");
    private static final Set<String> NAMES = Set.of(
        "begin", "step", "answer", "look", "page", "entry", "root", "queued", "under");

    public static void main(String[] args) {
        Check check = new Check();
        Class<?> face = LinkTree.class;
        check.due("public and final", face.getModifiers() & (Modifier.PUBLIC | Modifier.FINAL),
            Modifier.PUBLIC | Modifier.FINAL);
        Set<String> seen = new TreeSet<>();
        for (Method method : face.getDeclaredMethods()) {
            if (!Modifier.isPrivate(method.getModifiers())) {
                seen.add(text(method));
            } else {
                check.due(method.getName() + " bears a public name", NAMES.contains(method.getName()) ? 1 : 0, 0);
            }
        }
        if (!seen.equals(new TreeSet<>(METHODS))) {
            System.out.println("the methods are " + seen);
        }
        check.due("the methods are those of the document", seen.equals(new TreeSet<>(METHODS)) ? 1 : 0, 1);
        for (Field field : face.getDeclaredFields()) {
            check.due(field.getName() + " is private", Modifier.isPrivate(field.getModifiers()) ? 1 : 0, 1);
        }
        Constructor<?>[] constructors = face.getDeclaredConstructors();
        check.due("one constructor", constructors.length, 1);
        check.due("public", constructors[0].getModifiers(), Modifier.PUBLIC);
        check.due("without parameters", constructors[0].getParameterCount(), 0);
        for (Class<?> inside : face.getDeclaredClasses()) {
            int hidden = inside.getModifiers() & (Modifier.PUBLIC | Modifier.PROTECTED);
            check.due(inside.getName() + " is hidden", hidden, 0);
            check.due(inside.getName() + " is static", Modifier.isStatic(inside.getModifiers()) ? 1 : 0, 1);
        }
        check.end();
    }

    private static String text(Method method) {
        StringBuilder text = new StringBuilder(method.getReturnType().getName());
        text.append(' ').append(method.getName()).append('(');
        for (Class<?> type : method.getParameterTypes()) {
            text.append(text.charAt(text.length() - 1) == '(' ? "" : ",").append(type.getName());
        }
        text.append(')');
        for (Class<?> type : method.getExceptionTypes()) {
            text.append(' ').append(type.getSimpleName());
        }
        return text.toString();
    }
}
