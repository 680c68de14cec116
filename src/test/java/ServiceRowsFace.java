import java.lang.reflect.Constructor;
import java.lang.reflect.Field;
import java.lang.reflect.Method;
import java.lang.reflect.Modifier;
import java.util.ArrayList;
import java.util.Arrays;
import java.util.HashSet;
import java.util.List;
import java.util.Set;
import java.util.TreeSet;

/** The class shows the document's face and nothing else (rule 1 and 5 of LANGUAGE.md). */
public final class ServiceRowsFace {
    private static final String UNKNOWN = " IllegalArgumentException";
    private static final String RANGE = " IndexOutOfBoundsException";
    private static final String STATE = " IllegalStateException";
    private static final String ROOM = " UnsupportedOperationException";

    private static final String[] FACE = {
        "int vehicle(int,boolean)" + RANGE + ROOM,
        "int rule(int,int,int)" + RANGE + ROOM,
        "void small(int)" + RANGE,
        "void day(int)" + RANGE,
        "void read(int,int,int)" + UNKNOWN + RANGE + STATE,
        "int left(int,int,int)" + UNKNOWN + STATE,
        "int due(int)" + RANGE,
        "int defect(int,boolean)" + UNKNOWN + ROOM,
        "boolean test(int,int,int,int)" + UNKNOWN + RANGE,
        "void certificate(int,int,int)" + UNKNOWN + RANGE,
        "int order(int)" + UNKNOWN + ROOM,
        "int work(int,boolean,int)" + UNKNOWN + STATE,
        "int part(int,int,int,int)" + UNKNOWN + RANGE + STATE + ROOM,
        "void warranty(int,int,int)" + UNKNOWN + RANGE,
        "int budget(int)" + RANGE + ROOM,
        "int done(int)" + UNKNOWN + STATE,
        "int barred(int)" + UNKNOWN,
        "int spare(int)" + UNKNOWN,
        "int oil(int,int)" + UNKNOWN + RANGE + ROOM,
        "long oilPer(int,int)" + UNKNOWN + " ArithmeticException",
        "int defectAt(int,int)" + UNKNOWN,
        "int count(int)" + UNKNOWN,
    };

    private static int wrong = 0;

    private static void need(boolean holds, String what) {
        if (!holds) {
            wrong++;
            System.out.println("not as due: " + what);
        }
    }

    private static String names(Class<?>[] types, String between) {
        List<String> names = new ArrayList<>();
        for (Class<?> type : types) {
            names.add(type.getSimpleName());
        }
        return String.join(between, names);
    }

    private static String written(Method m) {
        String text = m.getReturnType().getSimpleName() + " " + m.getName()
                + "(" + names(m.getParameterTypes(), ",") + ")";
        String thrown = names(m.getExceptionTypes(), " ");
        return thrown.isEmpty() ? text : text + " " + thrown;
    }

    private static void checkMethods(Set<String> publicNames) {
        Set<String> found = new TreeSet<>();
        for (Method m : ServiceRows.class.getDeclaredMethods()) {
            if (Modifier.isPublic(m.getModifiers())) {
                need(!Modifier.isStatic(m.getModifiers()), m + " is static");
                found.add(written(m));
                publicNames.add(m.getName());
            } else {
                need(Modifier.isPrivate(m.getModifiers()), m + " is to be private");
            }
        }
        need(found.equals(new TreeSet<>(Arrays.asList(FACE))), "the public methods: " + found);
        for (Method m : ServiceRows.class.getDeclaredMethods()) {
            need(Modifier.isPublic(m.getModifiers()) || !publicNames.contains(m.getName()),
                    m + " bears a public method's name");
        }
    }

    private static void checkFields(Class<?> type) {
        for (Field f : type.getDeclaredFields()) {
            need(Modifier.isPrivate(f.getModifiers()), f + " is to be private");
            need(!Modifier.isStatic(f.getModifiers()) || Modifier.isFinal(f.getModifiers()),
                    f + " is static and not final");
        }
    }

    public static void main(String[] args) {
        Class<?> type = ServiceRows.class;
        need(Modifier.isPublic(type.getModifiers()), "the class is public");
        need(Modifier.isFinal(type.getModifiers()), "the class is final");
        Constructor<?>[] makers = type.getDeclaredConstructors();
        need(makers.length == 1 && makers[0].getParameterCount() == 0
                && Modifier.isPublic(makers[0].getModifiers()), "one public constructor");
        Set<String> publicNames = new HashSet<>();
        checkMethods(publicNames);
        checkFields(type);
        for (Class<?> inside : type.getDeclaredClasses()) {
            need(Modifier.isStatic(inside.getModifiers()), inside + " is to be static");
            checkFields(inside);
            for (Method m : inside.getDeclaredMethods()) {
                need(!publicNames.contains(m.getName()), m + " bears a public method's name");
            }
        }
        System.out.println(wrong == 0 ? "the face is as due" : wrong + " things are not as due");
        if (wrong != 0) {
            System.exit(1);
        }
    }
}
