import java.lang.reflect.Field;
import java.lang.reflect.Method;
import java.lang.reflect.Modifier;
import java.util.ArrayList;
import java.util.Arrays;
import java.util.Collections;
import java.util.List;

/** The public face: its constants, its methods with all that they throw, and nothing beside them. */
final class FaceTest {
    private static final String[] METHODS = {
        "int appeal(int) IndexOutOfBoundsException IllegalStateException",
        "int area(int) IndexOutOfBoundsException",
        "int burn(int,int) IndexOutOfBoundsException IllegalStateException",
        "int caseAt(int,int) IndexOutOfBoundsException",
        "int chain(int,int) IndexOutOfBoundsException",
        "int cut(int,int,int) IndexOutOfBoundsException IllegalArgumentException IllegalStateException",
        "int decide(int) IndexOutOfBoundsException IllegalStateException",
        "int die(int) IndexOutOfBoundsException IllegalStateException",
        "int dig(int,int) IndexOutOfBoundsException IllegalArgumentException IllegalStateException",
        "int disputed(int) IndexOutOfBoundsException",
        "int evidence(int,boolean,int) IndexOutOfBoundsException IllegalArgumentException IllegalStateException",
        "int file(int,boolean,int,int) IndexOutOfBoundsException IllegalArgumentException IllegalStateException",
        "int fill(int) IndexOutOfBoundsException",
        "int grant(int,int,int,int) IndexOutOfBoundsException IllegalArgumentException IllegalStateException",
        "int graze(int,int,int) IndexOutOfBoundsException IllegalArgumentException IllegalStateException",
        "int merge(int,int) IndexOutOfBoundsException IllegalStateException",
        "int name(int,int) IndexOutOfBoundsException IllegalStateException",
        "int owner(int) IndexOutOfBoundsException",
        "int paid(int) IndexOutOfBoundsException",
        "int parcelOf(int) IndexOutOfBoundsException",
        "int parcels()",
        "int pass(int) IllegalArgumentException IllegalStateException",
        "int rain(int) IllegalArgumentException",
        "int register(int,int,int,int) IndexOutOfBoundsException IllegalArgumentException IllegalStateException",
        "boolean release(int) IndexOutOfBoundsException",
        "int rightAt(int,int) IndexOutOfBoundsException",
        "int sheep(int,int) IndexOutOfBoundsException",
        "int square(int,int) IndexOutOfBoundsException",
        "int survey(int,int,int) IndexOutOfBoundsException IllegalArgumentException IllegalStateException",
        "int today()",
        "int use(int,int,int) IndexOutOfBoundsException IllegalArgumentException IllegalStateException",
        "int water(int) IndexOutOfBoundsException",
        "int wind(int) IllegalArgumentException",
    };

    private FaceTest() {
    }

    public static void main(String[] args) {
        Check.due("NONE", Peatland.NONE, -1);
        Check.due("GRAZE", Peatland.GRAZE, 0);
        Check.due("CUT", Peatland.CUT, 1);
        Check.due("BURN", Peatland.BURN, 2);
        Check.due("OPEN", Peatland.OPEN, 0);
        Check.due("GRANTED", Peatland.GRANTED, 1);
        Check.due("REFUSED", Peatland.REFUSED, 2);
        Check.due("the class is public and final",
            Modifier.isPublic(Peatland.class.getModifiers()) && Modifier.isFinal(Peatland.class.getModifiers()), true);
        Check.due("constructors", Peatland.class.getDeclaredConstructors().length, 1);
        checkMethods();
        checkFields();
        Check.end("FaceTest");
    }

    private static void checkMethods() {
        List<String> got = new ArrayList<>();
        for (Method method : Peatland.class.getDeclaredMethods()) {
            if (!Modifier.isPrivate(method.getModifiers())) {
                got.add(told(method));
            }
        }
        List<String> want = new ArrayList<>(Arrays.asList(METHODS));
        Collections.sort(got);
        Collections.sort(want);
        Check.due("the methods of the face, got " + got, got.equals(want), true);
        checkPrivateNames(want);
    }

    private static void checkPrivateNames(List<String> face) {
        for (Class<?> type : allClasses()) {
            for (Method method : type.getDeclaredMethods()) {
                boolean isOfTheFace = type == Peatland.class && face.contains(told(method));
                boolean bearsAName = face.stream().anyMatch(m -> m.contains(" " + method.getName() + "("));
                Check.due("a name of the face is borne by " + method, bearsAName && !isOfTheFace, false);
            }
        }
    }

    private static void checkFields() {
        int constants = 0;
        for (Field field : Peatland.class.getDeclaredFields()) {
            if (!Modifier.isPrivate(field.getModifiers())) {
                constants++;
            }
            Check.due("a static field that is not final: " + field,
                Modifier.isStatic(field.getModifiers()) && !Modifier.isFinal(field.getModifiers()), false);
        }
        Check.due("constants of the face", constants, 7);
    }

    private static List<Class<?>> allClasses() {
        List<Class<?>> all = new ArrayList<>(Arrays.asList(Peatland.class.getDeclaredClasses()));
        for (Class<?> inside : all) {
            Check.due("static: " + inside, Modifier.isStatic(inside.getModifiers()), true);
            Check.due("not public or protected: " + inside,
                Modifier.isPublic(inside.getModifiers()) || Modifier.isProtected(inside.getModifiers()), false);
        }
        all.add(Peatland.class);
        return all;
    }

    private static String told(Method method) {
        StringBuilder text = new StringBuilder();
        text.append(method.getReturnType().getSimpleName()).append(' ').append(method.getName()).append('(');
        Class<?>[] types = method.getParameterTypes();
        for (int i = 0; i < types.length; i++) {
            text.append(i > 0 ? "," : "").append(types[i].getSimpleName());
        }
        text.append(')');
        for (Class<?> thrown : method.getExceptionTypes()) {
            text.append(' ').append(thrown.getSimpleName());
        }
        return text.toString();
    }
}
