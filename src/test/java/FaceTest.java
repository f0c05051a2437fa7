import java.lang.reflect.Constructor;
import java.lang.reflect.Field;
import java.lang.reflect.Method;
import java.lang.reflect.Modifier;
import java.util.Arrays;
import java.util.Set;
import java.util.TreeSet;
import java.util.stream.Collectors;

/** The public face: what the document lists, and nothing else that could be seen. */
public final class FaceTest {
    private static final String FACE =
        "int terms(int,int);int node();int pipe(int,int,int,int,int,boolean,boolean);int house(int,int,int);"
        + "boolean valve(int,int,boolean);boolean burst(int,boolean);int air(int);int boiler(int,int);int store(int,int);"
        + "int mill(int,int);int feed(int,int,int,int,int);int end(int);int rules();int fault();int go(int);"
        + "long ahead(int,int);long aheadOf(int,int);int flow(int);int gets(int,int);int would(int,int,int,int);"
        + "long cut(int,int);int isolate(int);long plan(int);int planned(int);int meter(int,int,int,int);"
        + "int leak(int,int,int,int);int unit(int,int,int);int houseOf(int,int);long sums(int,int);int pipeOf(int,int);"
        + "long sum(int);int count(int);int row(int,int,int);boolean tear(int);int write(int,int,long);"
        + "int paste(int,int,int,int,int)";

    public static void main(String[] args) throws Exception {
        Check check = new Check();
        Class<?> face = HeatTown.class;
        check.due("public and final", face.getModifiers(), Modifier.PUBLIC | Modifier.FINAL);
        Set<String> due = new TreeSet<>(Arrays.asList(FACE.split(";")));
        check.due("36 methods", due.size(), 36);
        Set<String> seen = new TreeSet<>();
        Set<String> names = new TreeSet<>();
        for (Method m : face.getDeclaredMethods()) {
            if (!Modifier.isPrivate(m.getModifiers())) {
                check.due(m + " is public alone", m.getModifiers(), Modifier.PUBLIC);
                names.add(m.getName());
                seen.add(m.getReturnType() + " " + m.getName() + "(" + Arrays.stream(m.getParameterTypes())
                    .map(Class::getName).collect(Collectors.joining(",")) + ")");
            }
        }
        check.due("the methods are " + seen, seen.equals(due), true);
        for (Constructor<?> c : face.getDeclaredConstructors()) {
            check.due(c + " is public, without parameters", c.getModifiers() + c.getParameterCount(), Modifier.PUBLIC);
        }
        for (Field f : face.getDeclaredFields()) {
            boolean none = f.getName().equals("NONE");
            check.due(f + " is private", Modifier.isPrivate(f.getModifiers()), !none);
        }
        Field none = face.getField("NONE");
        check.due("NONE", none.getModifiers(), Modifier.PUBLIC | Modifier.STATIC | Modifier.FINAL);
        check.due("NONE", none.getInt(null), -1);
        check.due("its type is int", none.getType() == int.class, true);
        privateNames(check, face, names);
        for (Class<?> inner : face.getDeclaredClasses()) {
            check.due(inner + " is static", Modifier.isStatic(inner.getModifiers()), true);
            check.due(inner + " is not public", Modifier.isPublic(inner.getModifiers()), false);
            privateNames(check, inner, names);
        }
        check.finish();
    }

    private static void privateNames(Check check, Class<?> type, Set<String> names) {
        for (Method m : type.getDeclaredMethods()) {
            if (type != HeatTown.class || Modifier.isPrivate(m.getModifiers())) {
                check.due(m + " bears a public name", names.contains(m.getName()), false);
            }
        }
    }
}
