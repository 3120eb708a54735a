import java.lang.reflect.Constructor;
import java.lang.reflect.Field;
import java.lang.reflect.Method;
import java.lang.reflect.Modifier;
import java.util.Arrays;
import java.util.Set;
import java.util.TreeSet;

/** The public face, member by member, and that nothing else can be seen. */
public final class FaceTest {
    private static final Set<String> METHODS = Set.of(
        "int write(int)", "int wipe()", "int fault()", "int paper()", "int reference(int,int,int)", "int put(int,int)",
        "int cut(int,int)", "int move(int,int,int)", "int respell(int,int,int)", "int undo()", "int found(int,int,int)",
        "int aCase(int,int)", "int table(int)", "int shorter(int,int,int)", "int print(int,int)", "int judge(int,long)",
        "int see(int,int,int)", "int unsee()", "int which(int)", "int share(int,boolean)", "int lost(int,boolean)",
        "long seed(long)", "int drawn(int)", "int keep(int)", "int again(int)", "int count(int)");

    public static void main(String[] args) {
        Class<?> type = PointingNotes.class;
        Run.that("the class is public and final", type.getModifiers() == (Modifier.PUBLIC | Modifier.FINAL));
        Run.that("one public constructor", type.getDeclaredConstructors().length == 1 && type.getConstructors().length == 1);
        for (Constructor<?> constructor : type.getConstructors()) Run.that("without parameters", constructor.getParameterCount() == 0);
        constants();
        methods(type);
        for (Class<?> inside : type.getDeclaredClasses()) inside(inside);
        fields(type);
        Run.end("FaceTest");
    }

    private static void constants() {
        Run.that("UNKNOWN", PointingNotes.UNKNOWN == -1);
        Run.that("OUTSIDE", PointingNotes.OUTSIDE == -2);
        Run.that("STATE", PointingNotes.STATE == -3);
        Run.that("FULL", PointingNotes.FULL == -4);
        Run.that("NONE", PointingNotes.NONE == -9);
        Set<String> open = new TreeSet<>();
        for (Field field : PointingNotes.class.getDeclaredFields()) {
            if (Modifier.isPrivate(field.getModifiers())) continue;
            open.add(field.getName());
            int wanted = Modifier.PUBLIC | Modifier.STATIC | Modifier.FINAL;
            Run.that(field.getName() + " is a public constant of type int", field.getModifiers() == wanted && field.getType() == int.class);
        }
        Run.that("no other field is open", open.equals(Set.of("UNKNOWN", "OUTSIDE", "STATE", "FULL", "NONE")));
    }

    private static void methods(Class<?> type) {
        Set<String> open = new TreeSet<>();
        Set<String> names = new TreeSet<>();
        for (Method method : type.getDeclaredMethods()) {
            if (Modifier.isPrivate(method.getModifiers())) continue;
            Run.that(method.getName() + " is public and no more", method.getModifiers() == Modifier.PUBLIC);
            open.add(signature(method));
            names.add(method.getName());
        }
        Run.that("the open methods are the document's", open.equals(METHODS));
        for (Method method : type.getDeclaredMethods()) {
            boolean hidden = Modifier.isPrivate(method.getModifiers());
            Run.that("private " + method.getName() + " has a name of its own", !hidden || !names.contains(method.getName()));
        }
        for (Class<?> inside : type.getDeclaredClasses()) {
            for (Method method : inside.getDeclaredMethods()) {
                Run.that(inside.getName() + "." + method.getName() + " has a name of its own", !names.contains(method.getName()));
            }
        }
    }

    private static String signature(Method method) {
        String parameters = String.join(",", Arrays.stream(method.getParameterTypes()).map(Class::getName).toList());
        return method.getReturnType().getName() + " " + method.getName() + "(" + parameters + ")";
    }

    private static void inside(Class<?> inside) {
        int modifiers = inside.getModifiers();
        Run.that(inside.getName() + " is static", Modifier.isStatic(modifiers));
        Run.that(inside.getName() + " is not open", !Modifier.isPublic(modifiers) && !Modifier.isProtected(modifiers));
        fields(inside);
    }

    /** LANGUAGE.md, rules 5 and 11. */
    private static void fields(Class<?> type) {
        int own = 0;
        for (Field field : type.getDeclaredFields()) {
            boolean constant = Modifier.isStatic(field.getModifiers());
            if (!constant) own++;
            Run.that(type.getName() + "." + field.getName() + " is final if static", !constant || Modifier.isFinal(field.getModifiers()));
        }
        Run.that(type.getName() + " has at most 20 fields", own <= 20);
    }
}
