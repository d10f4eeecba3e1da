import java.lang.reflect.Constructor;
import java.lang.reflect.Field;
import java.lang.reflect.Method;
import java.lang.reflect.Modifier;
import java.util.ArrayList;
import java.util.Arrays;
import java.util.HashSet;
import java.util.List;
import java.util.Set;
import java.util.TreeSet;

/** The public face: just the document's constants, constructor and methods. */
public final class FaceTest {
    private static final String[] METHODS = {
        "int append(int,int,int,int,int)", "int load(int) IllegalArgumentException", "int errorOffset()",
        "int crossingCount()", "int streetCount()", "int houseCount()", "int walkerCount()",
        "int distance(int,int) IndexOutOfBoundsException", "int distanceFrom(int,int) IndexOutOfBoundsException",
        "int streetOf(int) IndexOutOfBoundsException", "boolean isOpen(int) IndexOutOfBoundsException",
        "boolean hasDog(int) IndexOutOfBoundsException",
        "boolean isHome(int,int) IndexOutOfBoundsException IllegalArgumentException",
        "int duration(int,int) IndexOutOfBoundsException IllegalArgumentException",
        "int planLength(int) IndexOutOfBoundsException", "int planned(int,int) IndexOutOfBoundsException",
        "int result(int,int) IndexOutOfBoundsException", "int arrival(int,int) IndexOutOfBoundsException",
        "int finish(int) IndexOutOfBoundsException", "int finishAll()", "int counted()", "int persons()",
        "int calls(int) IndexOutOfBoundsException",
        "int soonest(int,int) IndexOutOfBoundsException IllegalArgumentException",
        "int soonestOrder(int,int,int) IndexOutOfBoundsException IllegalArgumentException",
        "int division(int) IllegalArgumentException",
        "int walkerOf(int,int) IndexOutOfBoundsException IllegalArgumentException",
        "int plan(int,int) IndexOutOfBoundsException IllegalStateException",
        "int unplan(int) IndexOutOfBoundsException IllegalStateException",
        "int setHours(int,int,int) IndexOutOfBoundsException IllegalArgumentException",
        "boolean setDog(int,boolean) IndexOutOfBoundsException",
        "boolean setOpen(int,boolean) IndexOutOfBoundsException", "int undo()", "long checksum()",
    };

    public static void main(String[] args) {
        Class<CensusWalk> type = CensusWalk.class;
        Check.same("public and final", Modifier.isPublic(type.getModifiers()) && Modifier.isFinal(type.getModifiers()), true);
        methods(type);
        constants(type);
        Constructor<?>[] constructors = type.getDeclaredConstructors();
        Check.same("constructors", constructors.length, 1);
        Check.same("public constructor", Modifier.isPublic(constructors[0].getModifiers()), true);
        nested(type);
        Check.end();
    }

    private static void methods(Class<?> type) {
        Set<String> due = new TreeSet<>(Arrays.asList(METHODS));
        Set<String> publicNames = new HashSet<>();
        for (Method method : type.getDeclaredMethods()) {
            if (Modifier.isPublic(method.getModifiers())) {
                publicNames.add(method.getName());
                Check.same("the document has " + written(method), due.remove(written(method)), true);
                Check.same("static " + method, Modifier.isStatic(method.getModifiers()), false);
            }
        }
        Check.same("missing methods " + due, due.size(), 0);
        for (Method method : type.getDeclaredMethods()) {
            if (!Modifier.isPublic(method.getModifiers())) {
                Check.same("private " + method, Modifier.isPrivate(method.getModifiers()), true);
                Check.same("its own name " + method, publicNames.contains(method.getName()), false);
            }
        }
        for (Class<?> inside : type.getDeclaredClasses()) {
            for (Method method : inside.getDeclaredMethods()) {
                Check.same("its own name " + method, publicNames.contains(method.getName()), false);
            }
        }
    }

    private static String written(Method method) {
        List<String> types = new ArrayList<>();
        for (Class<?> type : method.getParameterTypes()) {
            types.add(type.getSimpleName());
        }
        StringBuilder text = new StringBuilder(method.getReturnType().getSimpleName());
        text.append(" ").append(method.getName()).append("(").append(String.join(",", types)).append(")");
        for (Class<?> type : method.getExceptionTypes()) {
            text.append(" ").append(type.getSimpleName());
        }
        return text.toString();
    }

    private static void constants(Class<?> type) {
        Check.same("SYNTAX_ERROR", CensusWalk.SYNTAX_ERROR, -2);
        Check.same("OUT_OF_RANGE", CensusWalk.OUT_OF_RANGE, -3);
        Check.same("TOO_MANY", CensusWalk.TOO_MANY, -4);
        Check.same("TOO_DEEP", CensusWalk.TOO_DEEP, -5);
        Check.same("ANSWERED", CensusWalk.ANSWERED, 0);
        Check.same("UNANSWERED", CensusWalk.UNANSWERED, 1);
        Check.same("DONE", CensusWalk.DONE, 2);
        Check.same("REFUSED", CensusWalk.REFUSED, 3);
        Check.same("UNREACHABLE", CensusWalk.UNREACHABLE, 4);
        int shown = 0;
        for (Field field : type.getDeclaredFields()) {
            if (Modifier.isPrivate(field.getModifiers())) {
                Check.same("static and not final: " + field,
                        Modifier.isStatic(field.getModifiers()) && !Modifier.isFinal(field.getModifiers()), false);
            } else {
                shown++;
                int modifiers = field.getModifiers();
                Check.same("a public constant: " + field, Modifier.isPublic(modifiers) && Modifier.isStatic(modifiers)
                        && Modifier.isFinal(modifiers) && field.getType() == int.class, true);
            }
        }
        Check.same("public constants", shown, 9);
    }

    private static void nested(Class<?> type) {
        for (Class<?> inside : type.getDeclaredClasses()) {
            int modifiers = inside.getModifiers();
            Check.same("hidden and static: " + inside, Modifier.isStatic(modifiers) && !Modifier.isPublic(modifiers)
                    && !Modifier.isProtected(modifiers), true);
        }
        Check.same("at most twelve classes", type.getDeclaredClasses().length <= 12, true);
    }
}
