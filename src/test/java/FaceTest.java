import java.lang.reflect.Constructor;
import java.lang.reflect.Field;
import java.lang.reflect.Method;
import java.lang.reflect.Modifier;
import java.util.Set;
import java.util.TreeSet;

/** The face is the document's and nothing more; what lies inside is not to be seen. */
public final class FaceTest {
    private static final Due DUE = new Due("face");
    private static final Set<String> FACE = Set.of(
            "int piece(int,int,int)", "int hold(int,int,boolean)", "int controller(int,boolean)",
            "int enter(int,int)", "int demand(int,int)", "int drift(int,int)", "int radio(int,int,int)",
            "int tick(int)", "int measure(int,int)", "int state(int,int)", "int permitted(int)",
            "int count(int)");

    public static void main(String[] args) {
        int modifiers = MovingBlock.class.getModifiers();
        yes("public and final", Modifier.isPublic(modifiers) && Modifier.isFinal(modifiers));
        yes("no package", MovingBlock.class.getPackageName().isEmpty());
        methods();
        constructors();
        fields();
        classesInside();
        DUE.end();
    }

    private static void yes(String name, boolean holds) {
        DUE.is(name, holds ? 1 : 0, 1);
    }

    private static String told(Method method) {
        StringBuilder types = new StringBuilder();
        for (Class<?> type : method.getParameterTypes()) {
            types.append(types.length() == 0 ? "" : ",").append(type.getName());
        }
        return method.getReturnType().getName() + " " + method.getName() + "(" + types + ")";
    }

    private static void methods() {
        Set<String> seen = new TreeSet<>();
        Set<String> names = new TreeSet<>();
        for (Method method : MovingBlock.class.getDeclaredMethods()) {
            if (Modifier.isPublic(method.getModifiers())) {
                seen.add(told(method));
                names.add(method.getName());
                yes(method.getName() + " belongs to the object", !Modifier.isStatic(method.getModifiers()));
            }
        }
        yes("the methods of the face: " + seen, seen.equals(FACE));
        for (Method method : MovingBlock.class.getDeclaredMethods()) {
            if (!Modifier.isPublic(method.getModifiers())) {
                yes(method.getName() + " is private", Modifier.isPrivate(method.getModifiers()));
                yes(method.getName() + " has a name of its own", !names.contains(method.getName()));
            }
        }
    }

    private static void constructors() {
        Constructor<?>[] all = MovingBlock.class.getDeclaredConstructors();
        DUE.is("constructors", all.length, 1);
        yes("without parameters", all[0].getParameterCount() == 0 && Modifier.isPublic(all[0].getModifiers()));
    }

    private static void fields() {
        for (Field field : MovingBlock.class.getDeclaredFields()) {
            boolean isFace = field.getName().equals("REFUSED");
            yes(field.getName() + " is private or of the face",
                    isFace ? Modifier.isPublic(field.getModifiers()) : Modifier.isPrivate(field.getModifiers()));
            yes(field.getName() + " is final if static",
                    !Modifier.isStatic(field.getModifiers()) || Modifier.isFinal(field.getModifiers()));
        }
    }

    private static void classesInside() {
        for (Class<?> inside : MovingBlock.class.getDeclaredClasses()) {
            int modifiers = inside.getModifiers();
            yes(inside.getName() + " is static and not public", Modifier.isStatic(modifiers)
                    && !Modifier.isPublic(modifiers) && !Modifier.isProtected(modifiers));
            yes(inside.getName() + " has at most twenty fields beside its constants", ownFields(inside) <= 20);
        }
        yes("at most twelve classes", MovingBlock.class.getDeclaredClasses().length < 12);
    }

    private static int ownFields(Class<?> inside) {
        int own = 0;
        for (Field field : inside.getDeclaredFields()) {
            own += Modifier.isStatic(field.getModifiers()) ? 0 : 1;
        }
        return own;
    }
}
