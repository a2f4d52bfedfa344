import java.lang.reflect.Constructor;
import java.lang.reflect.Field;
import java.lang.reflect.Method;
import java.lang.reflect.Modifier;
import java.util.Arrays;
import java.util.TreeSet;

// The public face is the document's, and nothing else is to be seen of the class; the classes inside are
// static and not public, and no private method in them bears the name of one of the face.
public final class RightsStepsFace {
    private static final String[] FACE = {
        "public byte RightsSteps.out(int) throws java.lang.ArrayIndexOutOfBoundsException",
        "public int RightsSteps.digit(int) throws java.lang.ArrayIndexOutOfBoundsException",
        "public int RightsSteps.key(int,byte,boolean)",
        "public int RightsSteps.left(int,long)",
        "public int RightsSteps.level(int,int,int,long)",
        "public int RightsSteps.log(int,int)",
        "public int RightsSteps.open(int)",
        "public int RightsSteps.reset()",
        "public int RightsSteps.role(int,boolean,long)",
        "public int RightsSteps.seed(int,long)",
        "public int RightsSteps.session(int)",
        "public int RightsSteps.tester(int)",
        "public void RightsSteps.tape(int)",
    };

    public static void main(String[] args) {
        TreeSet<String> seen = new TreeSet<>();
        TreeSet<String> names = new TreeSet<>();
        boolean right = true;
        for (Method method : RightsSteps.class.getDeclaredMethods()) {
            if (!Modifier.isPrivate(method.getModifiers())) {
                seen.add(method.toString());
            }
            right &= names.add(method.getName()) || complain("two methods named " + method.getName());
        }
        right &= seen.equals(new TreeSet<>(Arrays.asList(FACE))) || complain("the methods are " + seen);
        for (Field field : RightsSteps.class.getDeclaredFields()) {
            right &= Modifier.isPrivate(field.getModifiers()) || complain("to be seen: " + field);
        }
        Constructor<?>[] constructors = RightsSteps.class.getDeclaredConstructors();
        right &= constructors.length == 1 && constructors[0].toString().equals("public RightsSteps()")
                || complain("the constructors are " + Arrays.toString(constructors));
        right &= Modifier.isFinal(RightsSteps.class.getModifiers()) || complain("the class is not final");
        right &= Modifier.isPublic(RightsSteps.class.getModifiers()) || complain("the class is not public");
        for (Class<?> inside : RightsSteps.class.getDeclaredClasses()) {
            right &= isHidden(inside);
        }
        if (!right) {
            System.exit(1);
        }
        System.out.println("the face is the document's");
    }

    private static boolean isHidden(Class<?> inside) {
        boolean right = Modifier.isStatic(inside.getModifiers()) || complain("not static: " + inside);
        int seen = inside.getModifiers() & (Modifier.PUBLIC | Modifier.PROTECTED);
        right &= seen == 0 || complain("to be seen: " + inside);
        for (Method method : inside.getDeclaredMethods()) {
            boolean both = Modifier.isPrivate(method.getModifiers()) && isOfTheFace(method.getName());
            right &= !both || complain("bears a name of the face: " + method);
        }
        return right;
    }

    private static boolean isOfTheFace(String name) {
        for (String method : FACE) {
            if (method.contains(" RightsSteps." + name + "(")) {
                return true;
            }
        }
        return false;
    }

    private static boolean complain(String text) {
        System.out.println(text);
        return false;
    }
}
