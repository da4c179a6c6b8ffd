import java.lang.reflect.Constructor;
import java.lang.reflect.Field;
import java.lang.reflect.Method;
import java.lang.reflect.Modifier;
import java.util.Arrays;
import java.util.TreeSet;

/** The public face of the class: what the document tells, and nothing else. */
final class FaceTest {
    private static final String[] METHODS = {
        "int lines()",
        "int length(int) throws Index",
        "int sign(int, int) throws Index, Argument",
        "int insert(int, int, int) throws Index, Argument, State",
        "int remove(int, int, int) throws Index, Argument",
        "int breakLine(int, int) throws Index, Argument, State",
        "int join(int) throws Index, State",
        "boolean setMark(int, boolean) throws Index",
        "void shape(int, int, int, int) throws Index, Argument",
        "int hide(int, int, int, int) throws Index, Argument, State",
        "int show(int, int) throws Index",
        "int addVirtual(int, int, int, long) throws Index, Argument, State",
        "int dropVirtual(int, int) throws Index, Argument",
        "int addFold(int, int, int) throws Index, Argument, State",
        "boolean setClosed(int, int, boolean) throws Index, Argument",
        "int rows(int) throws Index",
        "int rowsOf(int, int) throws Index",
        "int clusters(int, int) throws Index",
        "int cell(int, int, int, int) throws Index, Argument",
        "int rowAt(int, int, int, int) throws Index, Argument",
        "int columnAt(int, int, int, int) throws Index, Argument",
        "int lineAt(int, int) throws Index",
        "int placeAt(int, int, int) throws Index, Argument",
        "int marksAt(int, int) throws Index",
        "int minimap(int, int) throws Index, Argument",
        "int open(int) throws Index, State",
        "int close(int) throws Index, State",
        "int share(int, int, int, int) throws Index, Argument, State",
        "int height(int) throws Index",
        "int put(int, int, int) throws Index, Argument, State",
        "boolean move(int, int) throws Index, Argument, State",
        "int play(int, int) throws Index, State",
        "int cursor(int, int) throws Index, Argument",
        "int scroll(int, int) throws Index, Argument, State",
        "int type(int, int) throws Index, Argument, State",
        "int typeBox(int, int, int, int, int) throws Index, Argument, State",
        "int draw(int) throws Index, State",
        "int shift(int) throws Index"};

    public static void main(String[] args) throws IllegalAccessException {
        constants();
        methods();
        members();
        Check.end();
    }

    private static void constants() throws IllegalAccessException {
        String[] due = {"BEFORE 0", "BEHIND 1", "DOWN 3", "END 5", "HOME 4", "LEFT 0", "NONE -1", "PAGE_DOWN 7",
            "PAGE_UP 6", "RIGHT 1", "UP 2"};
        TreeSet<String> got = new TreeSet<>();
        for (Field field : PaneLayers.class.getDeclaredFields()) {
            if (!Modifier.isPrivate(field.getModifiers())) {
                int all = Modifier.PUBLIC | Modifier.STATIC | Modifier.FINAL;
                Check.due("modifiers of " + field, all, field.getModifiers() & all);
                Check.due("type of " + field, "int", field.getType().getName());
                got.add(field.getName() + " " + field.getInt(null));
            }
        }
        Check.due("constants", Arrays.toString(due), got.toString());
    }

    private static void methods() {
        TreeSet<String> due = new TreeSet<>(Arrays.asList(METHODS));
        TreeSet<String> got = new TreeSet<>();
        TreeSet<String> names = new TreeSet<>();
        for (Method method : PaneLayers.class.getDeclaredMethods()) {
            if (!Modifier.isPrivate(method.getModifiers()) && !method.isSynthetic()) {
                Check.due("modifiers of " + method, Modifier.PUBLIC, method.getModifiers());
                got.add(face(method));
                names.add(method.getName());
            }
        }
        Check.due("methods", String.join("\n", due), String.join("\n", got));
        for (Method method : PaneLayers.class.getDeclaredMethods()) {
            boolean isTwin = Modifier.isPrivate(method.getModifiers()) && names.contains(method.getName());
            Check.due("a private method has the name " + method.getName(), false, isTwin);
        }
    }

    private static String face(Method method) {
        StringBuilder told = new StringBuilder(method.getReturnType() + " " + method.getName() + "(");
        Class<?>[] parameters = method.getParameterTypes();
        for (int i = 0; i < parameters.length; i++) {
            told.append(i > 0 ? ", " : "").append(parameters[i]);
        }
        told.append(")");
        Class<?>[] thrown = method.getExceptionTypes();
        for (int i = 0; i < thrown.length; i++) {
            told.append(i > 0 ? ", " : " throws ").append(thrown[i].getSimpleName()
                .replace("OutOfBoundsException", "").replace("Exception", "").replace("Illegal", ""));
        }
        return told.toString();
    }

    private static boolean isPublicName(String name) {
        for (String method : METHODS) {
            if (method.contains(" " + name + "(")) {
                return true;
            }
        }
        return false;
    }

    private static void members() {
        Check.due("the class is public and final", Modifier.PUBLIC | Modifier.FINAL, PaneLayers.class.getModifiers());
        Check.due("package", "", PaneLayers.class.getPackageName());
        Check.due("super class", "java.lang.Object", PaneLayers.class.getSuperclass().getName());
        Check.due("interfaces", 0, PaneLayers.class.getInterfaces().length);
        int constructors = 0;
        for (Constructor<?> constructor : PaneLayers.class.getDeclaredConstructors()) {
            Check.due("constructor", "public PaneLayers()", constructor.toString());
            constructors++;
        }
        Check.due("constructors", 1, constructors);
        for (Class<?> inside : PaneLayers.class.getDeclaredClasses()) {
            Check.due(inside + " is private", true, Modifier.isPrivate(inside.getModifiers()));
            Check.due(inside + " is static", true, Modifier.isStatic(inside.getModifiers()));
            for (Method method : inside.getDeclaredMethods()) {
                Check.due(inside + " has a method with the public name " + method, false, isPublicName(method.getName()));
            }
            for (Field field : inside.getDeclaredFields()) {
                boolean isConstant = Modifier.isFinal(field.getModifiers());
                Check.due(field + " is no static state", true, isConstant || !Modifier.isStatic(field.getModifiers()));
            }
        }
        for (Field field : PaneLayers.class.getDeclaredFields()) {
            boolean isConstant = Modifier.isFinal(field.getModifiers());
            Check.due(field + " is no static state", true, isConstant || !Modifier.isStatic(field.getModifiers()));
        }
    }
}
