import java.lang.reflect.Constructor;
import java.lang.reflect.Field;
import java.lang.reflect.Method;
import java.lang.reflect.Modifier;
import java.util.Arrays;
import java.util.HashSet;
import java.util.Set;
import java.util.TreeSet;

// The public face is the document's and nothing more (LANGUAGE.md, rules 1, 5, 11).
public final class AlertRowsFace {
    private static final String[] FACE = {
        "int group(int,int) IndexOutOfBoundsException UnsupportedOperationException",
        "void next(int,int) IllegalArgumentException IllegalStateException",
        "int person(int) IllegalArgumentException UnsupportedOperationException",
        "int way(int,int,boolean) IllegalArgumentException IndexOutOfBoundsException",
        "void is(int,int) IllegalArgumentException IndexOutOfBoundsException",
        "int alarm(int,boolean) IllegalArgumentException IllegalStateException UnsupportedOperationException",
        "int answer(int,int,int) IllegalArgumentException IndexOutOfBoundsException IllegalStateException",
        "int tick(int) IndexOutOfBoundsException",
        "int alarmAt(int,int) IllegalArgumentException",
        "int comes(int,int) IllegalArgumentException IndexOutOfBoundsException",
        "int reached(int,int) IllegalArgumentException",
        "int share(int,int) IllegalArgumentException ArithmeticException",
        "int never(int) IndexOutOfBoundsException",
        "int count(int) IllegalArgumentException",
    };

    private static int wrong = 0;

    private static void must(boolean holds, String what) {
        if (!holds) {
            wrong++;
            System.out.println("not so: " + what);
        }
    }

    private static String written(Method method) {
        StringBuilder text = new StringBuilder(method.getReturnType().getSimpleName());
        text.append(' ').append(method.getName()).append('(');
        for (int i = 0; i < method.getParameterCount(); i++) {
            text.append(i == 0 ? "" : ",").append(method.getParameterTypes()[i].getSimpleName());
        }
        text.append(')');
        for (Class<?> thrown : method.getExceptionTypes()) {
            text.append(' ').append(thrown.getSimpleName());
        }
        return text.toString();
    }

    public static void main(String[] args) {
        int type = AlertRows.class.getModifiers();
        must(Modifier.isPublic(type) && Modifier.isFinal(type), "the class is public and final");
        Constructor<?>[] makers = AlertRows.class.getDeclaredConstructors();
        must(makers.length == 1 && Modifier.isPublic(makers[0].getModifiers()) && makers[0].getParameterCount() == 0,
                "one public constructor without parameters");

        Set<String> face = new TreeSet<>();
        Set<String> names = new HashSet<>();
        for (Method method : AlertRows.class.getDeclaredMethods()) {
            if (!Modifier.isPrivate(method.getModifiers())) {
                face.add(written(method));
                names.add(method.getName());
            }
        }
        must(face.equals(new TreeSet<>(Arrays.asList(FACE))), "the face is the document's, it is " + face);

        checkMembers(AlertRows.class, names);
        for (Class<?> inside : AlertRows.class.getDeclaredClasses()) {
            int flags = inside.getModifiers();
            must(Modifier.isStatic(flags) && !Modifier.isPublic(flags) && !Modifier.isProtected(flags),
                    inside.getName() + " is static and private or package-visible");
            checkMembers(inside, names);
            for (Method method : inside.getDeclaredMethods()) {
                must(!names.contains(method.getName()), method + " does not bear a name of the face");
            }
        }
        System.out.println(wrong == 0 ? "the face is as due" : wrong + " things are not as due");
        if (wrong != 0) {
            System.exit(1);
        }
    }

    private static void checkMembers(Class<?> type, Set<String> names) {
        int fields = 0;
        for (Field field : type.getDeclaredFields()) {
            int flags = field.getModifiers();
            must(type != AlertRows.class || Modifier.isPrivate(flags), field + " is private");
            must(!Modifier.isStatic(flags) || Modifier.isFinal(flags), field + " is final");
            fields += Modifier.isStatic(flags) ? 0 : 1;
        }
        must(fields <= 20, type.getName() + " has at most 20 fields");
        for (Method method : type.getDeclaredMethods()) {
            must(method.getParameterCount() <= 7, method + " takes at most seven parameters");
            must(!Modifier.isPrivate(method.getModifiers()) || !names.contains(method.getName()),
                    method + " does not bear a name of the face");
        }
    }
}
