import java.lang.reflect.Constructor;
import java.lang.reflect.Field;
import java.lang.reflect.Method;
import java.lang.reflect.Modifier;
import java.util.ArrayList;
import java.util.Arrays;
import java.util.List;
import java.util.TreeSet;

/** The public face: the document's constants, constructor and methods, and no other member that can be seen. */
public final class FaceTest {
    private static final String FACE = "int status(); long top(); long bottom(); boolean tray(int, int, int); "
            + "boolean write(int, int, long); long read(int, int); boolean pour(int, int, int, int, int); "
            + "int feed(int, int, int, int, int); int river(int); int weeks(int); int fault(int); int many(int); "
            + "int turnsLeft(); long water(int); int reach(int, int); int mill(int, int); int winder(int, int); "
            + "int copyStored(int); int hour(int); int wind(int, boolean); int oil(); int gate(int, int); "
            + "boolean rain(boolean); int bring(int, int); boolean rule(int, int); int build(int, int); "
            + "boolean train(int, int); int turnsIn(int); int storedIn(int, int); int groundIn(int, int); "
            + "long seaIn(int); int dryIn(int); int floodIn(int); int stillIn(); int lawIn(); "
            + "int enough(int, int, int); int bestGate(int, int); int bestGround(int, int); int hire(int, int); "
            + "int hireAt(int, int, int); int wound(int, int); int sure(int, int); int cheapest(int, int); "
            + "int game(int, int, int); int moveOf(int, int, int); boolean share(int); boolean price(int); "
            + "boolean wet(int, int); int live(int); int lived(int); boolean mean(int, int); int mark(); int back();";
    private static final Check CHECK = new Check();

    public static void main(String[] args) throws IllegalAccessException {
        Class<?> face = ClockRiver.class;
        CHECK.due("the class is public and final", face.getModifiers(), Modifier.PUBLIC | Modifier.FINAL);
        CHECK.due("it extends nothing of its own", face.getSuperclass() == Object.class, true);
        CHECK.due("it implements nothing", face.getInterfaces().length, 0);
        methods(face);
        fields(face);
        constructors(face);
        for (Class<?> inside : face.getDeclaredClasses()) {
            int has = inside.getModifiers();
            CHECK.due(inside + " is static, private or package-visible",
                    Modifier.isStatic(has) && !Modifier.isPublic(has) && !Modifier.isProtected(has), true);
        }
        CHECK.end("FaceTest");
    }

    private static void methods(Class<?> face) {
        TreeSet<String> due = new TreeSet<>(Arrays.asList(FACE.substring(0, FACE.length() - 1).split("; ")));
        for (Method method : face.getDeclaredMethods()) {
            int has = method.getModifiers();
            if (Modifier.isPublic(has)) {
                CHECK.due(told(method) + " is of the face", due.remove(told(method)), true);
                CHECK.due(told(method) + " is public alone", has, Modifier.PUBLIC);
            } else {
                CHECK.due(told(method) + " is private", Modifier.isPrivate(has), true);
            }
        }
        CHECK.due("no method lacks: " + due, due.size(), 0);
    }

    private static String told(Method method) {
        List<String> types = new ArrayList<>();
        for (Class<?> type : method.getParameterTypes()) {
            types.add(type.getName());
        }
        return method.getReturnType().getName() + " " + method.getName() + "(" + String.join(", ", types) + ")";
    }

    private static void fields(Class<?> face) throws IllegalAccessException {
        for (Field field : face.getDeclaredFields()) {
            int has = field.getModifiers();
            if (field.getName().equals("NONE")) {
                CHECK.due("NONE", has, Modifier.PUBLIC | Modifier.STATIC | Modifier.FINAL);
                CHECK.due("NONE is an int", field.getType() == int.class, true);
                CHECK.due("NONE", field.getInt(null), -1);
            } else {
                CHECK.due(field.getName() + " is private", Modifier.isPrivate(has), true);
            }
        }
        CHECK.due("constants that can be seen", face.getFields().length, 1);
    }

    private static void constructors(Class<?> face) {
        Constructor<?>[] all = face.getDeclaredConstructors();
        CHECK.due("constructors", all.length, 1);
        CHECK.due("it takes nothing", all[0].getParameterCount(), 0);
        CHECK.due("it is public", all[0].getModifiers(), Modifier.PUBLIC);
    }
}
