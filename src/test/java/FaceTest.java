import java.lang.reflect.Constructor;
import java.lang.reflect.Field;
import java.lang.reflect.Method;
import java.lang.reflect.Modifier;
import java.util.Arrays;
import java.util.HashMap;
import java.util.Map;

/** The public face of the document, and rules 1, 5 and 11 of LANGUAGE.md as far as the class tells. */
public final class FaceTest {
    private static final String METHODS = "row3 set3 copy5 drop1 feed1 town0 fault0 steps1 wind1 give1 order1 back1"
        + " undo0 head2 orderHas2 hat1 who1 gets1 ever1 round1 done1 first0 by2 toGive2 winds2 lot3 seen4 keeps4"
        + " image1 restore1 kind1 as2 ask2 trace1 count1 status0";
    private static final Check check = new Check();

    public static void main(String[] args) throws ReflectiveOperationException {
        check.promise("the face");
        Class<?> type = HatOrders.class;
        check.due("it is public and final", Modifier.isPublic(type.getModifiers()) && Modifier.isFinal(type.getModifiers()));
        constants(type);
        constructors(type);
        methods(type);
        check.due("at most twelve classes", type.getDeclaredClasses().length <= 12);
        for (Class<?> inside : type.getDeclaredClasses()) {
            inside(inside);
        }
        check.finish("FaceTest");
    }

    private static void constants(Class<?> type) throws ReflectiveOperationException {
        Map<String, Integer> due = new HashMap<>();
        due.put("NONE", Check.NONE);
        due.put("BAD", Check.BAD);
        due.put("STATE", Check.STATE);
        due.put("FULL", Check.FULL);
        for (Field field : type.getDeclaredFields()) {
            Integer value = due.remove(field.getName());
            if (value == null) {
                check.due(field.getName() + " is private", Modifier.isPrivate(field.getModifiers()));
            } else {
                check.due(field.getName() + " is public", Modifier.isPublic(field.getModifiers()));
                check.due(field.getName(), field.getInt(null), value);
            }
        }
        check.due("constants that are missing", due.size(), 0);
        staticFields(type);
    }

    private static void staticFields(Class<?> type) {
        int own = 0;
        for (Field field : type.getDeclaredFields()) {
            if (Modifier.isStatic(field.getModifiers())) {
                check.due(type + " " + field.getName() + " is final", Modifier.isFinal(field.getModifiers()));
            } else {
                own++;
            }
        }
        check.due(type + " has at most twenty fields", own <= 20);
    }

    private static void constructors(Class<?> type) {
        Constructor<?>[] all = type.getDeclaredConstructors();
        check.due("constructors", all.length, 1);
        check.due("it is public", Modifier.isPublic(all[0].getModifiers()));
        check.due("it takes nothing", all[0].getParameterCount(), 0);
    }

    private static void methods(Class<?> type) {
        Map<String, Integer> due = new HashMap<>();
        for (String name : METHODS.split(" ")) {
            due.put(name.substring(0, name.length() - 1), name.charAt(name.length() - 1) - '0');
        }
        for (Method method : type.getDeclaredMethods()) {
            Integer many = due.remove(method.getName());
            if (many == null) {
                check.due(method.getName() + " is private", Modifier.isPrivate(method.getModifiers()));
                continue;
            }
            Class<?>[] ints = new Class<?>[many];
            Arrays.fill(ints, int.class);
            check.due(method.getName() + " is public", Modifier.isPublic(method.getModifiers()));
            check.due(method.getName() + " is of the object", !Modifier.isStatic(method.getModifiers()));
            check.due(method.getName() + " answers an int", method.getReturnType() == int.class);
            check.due(method.getName() + " takes ints", Arrays.equals(method.getParameterTypes(), ints));
        }
        check.due("methods that are missing: " + due.keySet(), due.size(), 0);
    }

    private static void inside(Class<?> inside) {
        String name = inside.getSimpleName();
        boolean isHidden = !Modifier.isPublic(inside.getModifiers()) && !Modifier.isProtected(inside.getModifiers());
        check.due(name + " is private or package-visible", isHidden);
        check.due(name + " is static", Modifier.isStatic(inside.getModifiers()));
        staticFields(inside);
        for (Method method : inside.getDeclaredMethods()) {
            check.due(name + "." + method.getName() + " bears no public name", !isOfTheFace(method.getName()));
            check.due(name + "." + method.getName() + " takes at most seven", method.getParameterCount() <= 7);
        }
    }

    private static boolean isOfTheFace(String name) {
        for (String face : METHODS.split(" ")) {
            if (face.substring(0, face.length() - 1).equals(name)) {
                return true;
            }
        }
        return false;
    }
}
