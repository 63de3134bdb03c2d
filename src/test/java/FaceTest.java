import java.lang.reflect.Constructor;
import java.lang.reflect.Field;
import java.lang.reflect.Method;
import java.lang.reflect.Modifier;
import java.util.Arrays;
import java.util.Set;
import java.util.TreeSet;

/** The face is the document's, and nothing else of the class is to be seen; what LANGUAGE.md counts is within its limits. */
public final class FaceTest {
    private static final String[] METHODS = {"letters(long)int", "blank()int", "fault()int", "vow()int",
        "vowTold(int,int)int", "hermit(int,int,int,int,int,int)int", "as(int,int)int", "about(int,int)int",
        "store(int,int)int", "change(int,int)int", "soup(int,int)int", "heat(int)int", "feast(boolean)int",
        "day(int,int,int,int)int", "meal(int,int,int,int)int", "bite(int,int,int,int,int)int", "least(int,int)int",
        "bestStart(int)int", "bestSwap(int,int)int", "bestStir(int,int)int", "live(int,int,int)int",
        "starves(int,int,int)int", "fasting(int,int,int)int", "schism(int,int)int", "twice(int,int,int,int)int",
        "image()int", "restore()int", "count(int)int", "digest()long"};
    private static final Set<String> CONSTANTS = Set.of("NONE", "UNKNOWN", "OUTSIDE", "STATE", "FULL");

    public static void main(String[] args) {
        Class<?> face = HermitsSpoon.class;
        Due.that("public and final", Modifier.isPublic(face.getModifiers()) && Modifier.isFinal(face.getModifiers()));
        methods(face);
        constructorsAndFields(face);
        classesInside(face);
        constants();
        Due.end();
    }

    private static void methods(Class<?> face) {
        Set<String> seen = new TreeSet<>();
        Set<String> names = new TreeSet<>();
        for (String method : METHODS) {
            names.add(method.substring(0, method.indexOf('(')));
        }
        for (Method method : face.getDeclaredMethods()) {
            if (Modifier.isPrivate(method.getModifiers())) {
                Due.that("no private method bears a public one's name: " + method.getName(), !names.contains(method.getName()));
                continue;
            }
            StringBuilder told = new StringBuilder(method.getName()).append('(');
            for (Class<?> parameter : method.getParameterTypes()) {
                told.append(told.charAt(told.length() - 1) == '(' ? "" : ",").append(parameter.getName());
            }
            seen.add(told.append(')').append(method.getReturnType().getName()).toString());
            Due.that(method + " is public", Modifier.isPublic(method.getModifiers()) && !Modifier.isStatic(method.getModifiers()));
        }
        Due.that("methods are " + seen, seen.equals(new TreeSet<>(Arrays.asList(METHODS))));
    }

    private static void constructorsAndFields(Class<?> face) {
        Constructor<?>[] constructors = face.getDeclaredConstructors();
        Due.is("constructors", constructors.length, 1);
        Due.that("it is public and takes nothing",
                Modifier.isPublic(constructors[0].getModifiers()) && constructors[0].getParameterCount() == 0);
        for (Field field : face.getDeclaredFields()) {
            int is = field.getModifiers();
            Due.that(field.getName() + " is private, or a constant of the face",
                    Modifier.isPrivate(is) || Modifier.isPublic(is) && CONSTANTS.contains(field.getName()));
            Due.that(field.getName() + " is final, if it is static", Modifier.isFinal(is) || !Modifier.isStatic(is));
        }
    }

    private static void classesInside(Class<?> face) {
        Due.that("at most twelve classes", face.getDeclaredClasses().length <= 11);
        for (Class<?> inside : face.getDeclaredClasses()) {
            int is = inside.getModifiers();
            Due.that(inside + " is static and not public", Modifier.isStatic(is) && !Modifier.isPublic(is));
            Due.that(inside + " has at most twenty fields", inside.getDeclaredFields().length <= 20);
            for (Method method : inside.getDeclaredMethods()) {
                Due.that(method + " takes at most seven", method.getParameterCount() <= 7);
            }
        }
    }

    private static void constants() {
        Due.is("NONE", HermitsSpoon.NONE, -1);
        Due.is("UNKNOWN", HermitsSpoon.UNKNOWN, -101);
        Due.is("OUTSIDE", HermitsSpoon.OUTSIDE, -102);
        Due.is("STATE", HermitsSpoon.STATE, -103);
        Due.is("FULL", HermitsSpoon.FULL, -104);
    }
}
