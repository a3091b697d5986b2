import java.lang.reflect.Constructor;
import java.lang.reflect.Field;
import java.lang.reflect.Method;
import java.lang.reflect.Modifier;
import java.util.Arrays;
import java.util.Set;
import java.util.TreeSet;

/** The face of the class: just the members that the document names, with their throws clauses. */
public final class FaceTest {
    private static final String[] FACE = {
        "int addTroop(int,int,int) IndexOutOfBounds IllegalArgument IllegalState",
        "int append(int) IllegalArgument IllegalState",
        "int arrivesIn(int) IndexOutOfBounds",
        "int bestPost(int) IndexOutOfBounds",
        "int cell(int,int) IndexOutOfBounds IllegalArgument",
        "int clearBuffer()",
        "int count(int) IllegalArgument",
        "long digest()",
        "int distance(int,int) IndexOutOfBounds",
        "int firstError()",
        "int ifPassed(int,int) IllegalArgument",
        "int load() IllegalArgument",
        "int moveGeneral(int,int) IndexOutOfBounds",
        "int order(int,int) IndexOutOfBounds IllegalState",
        "int pass(int) IllegalArgument IllegalState",
        "boolean sees(int,int) IndexOutOfBounds",
        "int shape(int,int,int) IndexOutOfBounds IllegalArgument",
        "double strengthLeft()",
        "int troop(int,int) IndexOutOfBounds IllegalArgument",
        "int underWay(int,int) IndexOutOfBounds IllegalArgument",
        "int undo() IllegalState",
        "int why(int) IndexOutOfBounds",
    };

    public static void main(String[] args) {
        Class<?> war = CourierWar.class;
        Check.holds("public and final", Modifier.isPublic(war.getModifiers()) && Modifier.isFinal(war.getModifiers()));
        Set<String> names = methods(war);
        fields(war);
        constructors(war);
        for (Class<?> inside : war.getDeclaredClasses()) {
            inside(inside, names);
        }
        Check.end("FaceTest");
    }

    private static Set<String> methods(Class<?> war) {
        Set<String> found = new TreeSet<>();
        Set<String> names = new TreeSet<>();
        for (Method method : war.getDeclaredMethods()) {
            if (!Modifier.isPrivate(method.getModifiers())) {
                Check.same(method + " is public and no more", method.getModifiers(), Modifier.PUBLIC);
                found.add(told(method));
                names.add(method.getName());
            }
        }
        Check.holds("the methods are " + found, found.equals(new TreeSet<>(Arrays.asList(FACE))));
        Check.same("no name twice", names.size(), FACE.length);
        for (Method method : war.getDeclaredMethods()) {
            if (Modifier.isPrivate(method.getModifiers())) {
                Check.holds(method + " has a name of its own", !names.contains(method.getName()));
            }
        }
        return names;
    }

    private static String told(Method method) {
        StringBuilder text = new StringBuilder();
        for (Class<?> parameter : method.getParameterTypes()) {
            text.append(text.length() == 0 ? "" : ",").append(parameter.getSimpleName());
        }
        text.insert(0, method.getReturnType().getSimpleName() + " " + method.getName() + "(").append(")");
        for (Class<?> exception : method.getExceptionTypes()) {
            text.append(" ").append(exception.getSimpleName().replace("Exception", ""));
        }
        return text.toString();
    }

    private static void fields(Class<?> war) {
        for (Field field : war.getDeclaredFields()) {
            boolean shown = !Modifier.isPrivate(field.getModifiers());
            Check.same(field + " is shown", shown ? 1 : 0, field.getName().equals("NONE") ? 1 : 0);
        }
        Check.same("NONE", CourierWar.NONE, -1);
    }

    private static void constructors(Class<?> war) {
        Constructor<?>[] made = war.getDeclaredConstructors();
        Check.same("constructors", made.length, 1);
        Check.same("is public", made[0].getModifiers(), Modifier.PUBLIC);
        Check.same("takes nothing", made[0].getParameterCount(), 0);
    }

    private static void inside(Class<?> inside, Set<String> names) {
        int shown = inside.getModifiers() & (Modifier.PUBLIC | Modifier.PROTECTED);
        Check.same(inside + " is not shown", shown, 0);
        Check.holds(inside + " is static", Modifier.isStatic(inside.getModifiers()));
        for (Field field : inside.getDeclaredFields()) {
            int kind = field.getModifiers() & (Modifier.STATIC | Modifier.FINAL);
            Check.holds(field + ", if static, is final", kind != Modifier.STATIC);
        }
        for (Method method : inside.getDeclaredMethods()) {
            Check.holds(method + " has a name of its own", !names.contains(method.getName()));
        }
    }
}
