import java.lang.reflect.Constructor;
import java.lang.reflect.Field;
import java.lang.reflect.Method;
import java.lang.reflect.Modifier;
import java.util.ArrayList;
import java.util.List;
import java.util.Set;
import java.util.TreeSet;

/** The public face of the document, and rules 1, 2 and 5 of LANGUAGE.md as far as the compiled class shows them. */
public final class FaceTest {
    private static final Set<String> FACE = Set.of(
        "int letter(char) IllegalArgumentException IllegalStateException",
        "int tag(int) IndexOutOfBoundsException IllegalStateException",
        "int add() IllegalStateException",
        "boolean text(int,boolean) IndexOutOfBoundsException",
        "int word() IllegalStateException",
        "int clear()",
        "int lock(int,int) IndexOutOfBoundsException",
        "int weight(int) IndexOutOfBoundsException IllegalStateException",
        "int step(int,int) IndexOutOfBoundsException",
        "int path(int,int) IndexOutOfBoundsException",
        "int pathAnew(int,int) IndexOutOfBoundsException",
        "long product(int) IndexOutOfBoundsException IllegalStateException",
        "int cost() IllegalStateException",
        "int share(int,int) IndexOutOfBoundsException",
        "int shareAnew(int,int) IndexOutOfBoundsException",
        "int texts()");

    public static void main(String[] args) {
        Check.due("modifiers of the class", Modifier.toString(Trellistag.class.getModifiers()), "public final");
        methods();
        constructors();
        fields(Trellistag.class);
        inner();
        Check.finish();
    }

    private static void methods() {
        Set<String> found = new TreeSet<>();
        Set<String> names = new TreeSet<>();
        for (Method method : Trellistag.class.getDeclaredMethods()) {
            if (!Modifier.isPrivate(method.getModifiers())) {
                Check.due("modifiers of " + method, Modifier.toString(method.getModifiers()), "public");
                found.add(told(method));
                names.add(method.getName());
            }
        }
        Check.due("the methods", found, new TreeSet<>(FACE));
        for (Class<?> owner : all()) {
            for (Method method : owner.getDeclaredMethods()) {
                boolean clash = Modifier.isPrivate(method.getModifiers()) && names.contains(method.getName());
                Check.due("a private method bears a public name: " + method, clash, false);
            }
        }
    }

    private static String told(Method method) {
        List<String> types = new ArrayList<>();
        for (Class<?> type : method.getParameterTypes()) {
            types.add(type.getName());
        }
        StringBuilder told = new StringBuilder(method.getReturnType().getName());
        told.append(' ').append(method.getName()).append('(').append(String.join(",", types)).append(')');
        for (Class<?> thrown : method.getExceptionTypes()) {
            told.append(' ').append(thrown.getSimpleName());
        }
        return told.toString();
    }

    private static void constructors() {
        Constructor<?>[] constructors = Trellistag.class.getDeclaredConstructors();
        Check.due("how many constructors", constructors.length, 1);
        Check.due("the constructor", constructors[0].toString(), "public Trellistag()");
    }

    private static void fields(Class<?> owner) {
        for (Field field : owner.getDeclaredFields()) {
            int modifiers = field.getModifiers();
            boolean constant = field.getName().equals("NONE");
            Check.due("visibility of " + field, Modifier.isPrivate(modifiers), !constant);
            boolean changing = Modifier.isStatic(modifiers) && !Modifier.isFinal(modifiers);
            Check.due("static and not final: " + field, changing, false);
            if (constant) {
                Check.due("modifiers of NONE", Modifier.toString(modifiers), "public static final");
            }
        }
    }

    private static void inner() {
        for (Class<?> type : Trellistag.class.getDeclaredClasses()) {
            Check.due(type + " is static", Modifier.isStatic(type.getModifiers()), true);
            Check.due(type + " is private", Modifier.isPrivate(type.getModifiers()), true);
            fields(type);
        }
    }

    private static List<Class<?>> all() {
        List<Class<?>> all = new ArrayList<>(List.of(Trellistag.class.getDeclaredClasses()));
        all.add(Trellistag.class);
        return all;
    }
}
