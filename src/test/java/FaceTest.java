import java.lang.reflect.Constructor;
import java.lang.reflect.Field;
import java.lang.reflect.Method;
import java.lang.reflect.Modifier;
import java.util.TreeSet;

/** The class has the document's face and no other member that can be seen from outside. */
public final class FaceTest {
    private static final String ARGUMENT = "IllegalArgumentException";
    private static final String STATE = "IllegalStateException";
    private static final String ELEMENT = "NoSuchElementException";
    private static final String BOUNDS = "IndexOutOfBoundsException";

    public static void main(String[] args) {
        Checks checks = new Checks();
        checks.about("The public face");
        checks.same("public and final", PaneScreen.class.getModifiers(), Modifier.PUBLIC | Modifier.FINAL);
        checks.same("members", members(), due());
        checks.same("CLICK", PaneScreen.CLICK, 1);
        checks.same("KEY", PaneScreen.KEY, 2);
        checks.same("GOT", PaneScreen.GOT, 3);
        checks.same("LOST", PaneScreen.LOST, 4);
        noPrivateMethodBearsAPublicName(checks);
        classesInsideAreStaticAndHidden(checks);
        staticFieldsAreFinal(checks);
        checks.finish();
    }

    private static void noPrivateMethodBearsAPublicName(Checks checks) {
        checks.about("LANGUAGE.md, rule 1: no private method bears the name of a public one");
        TreeSet<String> publicNames = new TreeSet<>();
        TreeSet<String> privateNames = new TreeSet<>();
        for (Method method : PaneScreen.class.getDeclaredMethods()) {
            (Modifier.isPrivate(method.getModifiers()) ? privateNames : publicNames).add(method.getName());
        }
        privateNames.retainAll(publicNames);
        checks.same("names of both", privateNames.toString(), "[]");
    }

    private static void classesInsideAreStaticAndHidden(Checks checks) {
        checks.about("LANGUAGE.md, rule 1: the classes inside are private or package-visible and static");
        for (Class<?> inside : PaneScreen.class.getDeclaredClasses()) {
            int modifiers = inside.getModifiers();
            boolean hidden = !Modifier.isPublic(modifiers) && !Modifier.isProtected(modifiers);
            checks.same(inside.getSimpleName() + " is hidden", hidden, true);
            checks.same(inside.getSimpleName() + " is static", Modifier.isStatic(modifiers), true);
        }
    }

    private static void staticFieldsAreFinal(Checks checks) {
        checks.about("LANGUAGE.md, rule 5: static fields are final");
        for (Field field : PaneScreen.class.getDeclaredFields()) {
            if (Modifier.isStatic(field.getModifiers())) {
                checks.same(field.getName(), Modifier.isFinal(field.getModifiers()), true);
            }
        }
    }

    private static String due() {
        TreeSet<String> due = new TreeSet<>();
        for (String name : new String[] {"CLICK", "GOT", "KEY", "LOST"}) {
            due.add("public static final int " + name);
        }
        due.add("public ()");
        addDue(due, "int open(int,int,int,int)", ARGUMENT, STATE);
        addDue(due, "void close(int)", ELEMENT);
        addDue(due, "void move(int,int,int)", ELEMENT, ARGUMENT);
        addDue(due, "boolean raise(int,boolean)", ELEMENT);
        addDue(due, "boolean plot(int,int,int,int)", ELEMENT, ARGUMENT);
        addDue(due, "int fill(int,int,int,int,int)", ELEMENT, ARGUMENT);
        addDue(due, "void pen(int,int,int)", ELEMENT, ARGUMENT);
        addDue(due, "int line(int,int,int,int)", ELEMENT, ARGUMENT);
        addDue(due, "void scroll(int,int,int)", ELEMENT, ARGUMENT);
        addDue(due, "int flush()");
        addDue(due, "int screen(int,int)", BOUNDS);
        addDue(due, "int picture(int,int,int)", ELEMENT, BOUNDS);
        addDue(due, "int at(int,int)", BOUNDS);
        addDue(due, "int visible(int)", ELEMENT);
        addDue(due, "int click(int,int)", BOUNDS);
        addDue(due, "boolean key(int)");
        addDue(due, "int next()", ELEMENT);
        addDue(due, "int event(int)", STATE, ARGUMENT);
        addDue(due, "int figure(int)", ARGUMENT);
        return due.toString();
    }

    private static void addDue(TreeSet<String> due, String method, String... thrown) {
        due.add("public " + method + " throws " + String.join(",", thrown));
    }

    private static String members() {
        TreeSet<String> members = new TreeSet<>();
        for (Field field : PaneScreen.class.getDeclaredFields()) {
            if (!Modifier.isPrivate(field.getModifiers())) {
                members.add(Modifier.toString(field.getModifiers()) + " " + field.getType() + " " + field.getName());
            }
        }
        for (Constructor<?> constructor : PaneScreen.class.getDeclaredConstructors()) {
            members.add(Modifier.toString(constructor.getModifiers()) + " "
                    + names(constructor.getParameterTypes(), "(", ")"));
        }
        for (Method method : PaneScreen.class.getDeclaredMethods()) {
            if (!Modifier.isPrivate(method.getModifiers())) {
                members.add(Modifier.toString(method.getModifiers()) + " " + method.getReturnType() + " "
                        + method.getName() + names(method.getParameterTypes(), "(", ")")
                        + names(method.getExceptionTypes(), " throws ", ""));
            }
        }
        return members.toString();
    }

    private static String names(Class<?>[] types, String before, String behind) {
        StringBuilder text = new StringBuilder(before);
        for (int k = 0; k < types.length; k++) {
            text.append(k == 0 ? "" : ",").append(types[k].getSimpleName());
        }
        return text.append(behind).toString();
    }
}
