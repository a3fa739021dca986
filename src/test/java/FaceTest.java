import java.lang.reflect.Constructor;
import java.lang.reflect.Field;
import java.lang.reflect.Method;
import java.lang.reflect.Modifier;
import java.util.Set;
import java.util.TreeSet;

/** The public face: every constant, constructor and method of the document, and no other. */
public final class FaceTest {
    private static final String[] CONSTANTS = {"MAX_PANES=8", "MIN_WIDTH=8", "MAX_WIDTH=24",
        "MIN_HEIGHT=4", "MAX_HEIGHT=12", "LEFT_RIGHT=1", "TOP_BOTTOM=2", "RECT_X=0", "RECT_Y=1",
        "RECT_W=2", "RECT_H=3", "ST_ROW=0", "ST_COL=1", "ST_TOP=2", "ST_BOTTOM=3", "ST_MODE=4",
        "ST_P1=5", "ST_P2=6", "ST_INDEX=7", "MODE_GROUND=0", "MODE_ESCAPE=1", "MODE_CSI=2",
        "OWNER_BORDER=-1", "OWNER_OUTSIDE=-2"};
    private static final String[] METHODS = {"boolean feed(int,int)", "int split(int)",
        "boolean close()", "boolean focus(int)", "int focusNext()", "boolean setShare(int,int)",
        "boolean resizeHost(int,int)", "int focused()", "int paneCount()", "int paneRect(int,int)",
        "int paneState(int,int)", "char paneChar(int,int,int)", "int hostOwner(int,int)",
        "char hostChar(int,int)", "int hostSize(int)"};

    public static void main(String[] args) throws IllegalAccessException {
        Class<?> face = PaneMultiplexer.class;
        Expect.same("the class", Modifier.toString(face.getModifiers()), "public final");
        Expect.same("nested classes", face.getDeclaredClasses().length, 0);
        constants(face);
        methods(face);
        constructors(face);
        Expect.finish();
    }

    private static void constants(Class<?> face) throws IllegalAccessException {
        Set<String> seen = new TreeSet<>();
        for (Field field : face.getDeclaredFields()) {
            int modifiers = field.getModifiers();
            if (!Modifier.isPrivate(modifiers)) {
                Expect.same(field.getName(), Modifier.toString(modifiers), "public static final");
                Expect.same(field.getName() + " type", field.getType().getName(), "int");
                seen.add(field.getName() + "=" + field.getInt(null));
            } else if (Modifier.isStatic(modifiers)) {
                Expect.same(field.getName(), Modifier.isFinal(modifiers)
                    && (field.getType() == int.class || field.getType() == long.class), true);
            }
        }
        Expect.same("constants", seen.toString(), new TreeSet<>(Set.of(CONSTANTS)).toString());
    }

    private static void methods(Class<?> face) {
        Set<String> seen = new TreeSet<>();
        Set<String> names = new TreeSet<>();
        for (Method method : face.getDeclaredMethods()) {
            if (!Modifier.isPrivate(method.getModifiers())) {
                Expect.same(method.getName(), Modifier.toString(method.getModifiers()), "public");
                seen.add(method.getReturnType() + " " + method.getName() + "("
                    + parameters(method.getParameterTypes()) + ")");
                names.add(method.getName());
            }
        }
        Expect.same("methods", seen.toString(), new TreeSet<>(Set.of(METHODS)).toString());
        for (Method method : face.getDeclaredMethods()) {
            if (Modifier.isPrivate(method.getModifiers())) {
                Expect.same("private " + method.getName() + " bears a public name",
                    names.contains(method.getName()), false);
            }
        }
    }

    private static void constructors(Class<?> face) {
        Constructor<?>[] constructors = face.getDeclaredConstructors();
        Expect.same("constructors", constructors.length, 1);
        Expect.same("constructor", Modifier.toString(constructors[0].getModifiers()), "public");
        Expect.same("its parameters", parameters(constructors[0].getParameterTypes()), "int,int");
    }

    private static String parameters(Class<?>[] types) {
        StringBuilder text = new StringBuilder();
        for (Class<?> type : types) {
            text.append(text.length() == 0 ? "" : ",").append(type.getName());
        }
        return text.toString();
    }
}
