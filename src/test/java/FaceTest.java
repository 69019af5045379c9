import java.lang.reflect.Constructor;
import java.lang.reflect.Field;
import java.lang.reflect.Method;
import java.lang.reflect.Modifier;
import java.util.Arrays;
import java.util.TreeSet;

/** The public face is that of the document, and nothing beside it can be reached from outside. */
public final class FaceTest {
    private static final String[] METHODS = {
        "add(int,int,int,int,int)", "change(int,int,int)", "execute(int,int,int)", "cancel(int,int)",
        "halt(int,boolean)", "clear(int)", "publish()", "packetByte(int,int)", "line(int,int,int)",
        "askReplay(int)", "serveReplay(int)", "snapshotTurn()", "hearSnapshot(int,int,int)", "sound(int,int)",
        "at(int,int)", "receiver(int,int)", "best(int,int,int,int,int)", "order(int,int,int,int)",
        "halted(int,int)", "dirty(int)", "read(int)", "view(int,int,int,int)"};

    private static final Check check = new Check();

    public static void main(String[] args) {
        int modifiers = FeedDesk.class.getModifiers();
        check.holds("the class is public and final", Modifier.isPublic(modifiers) && Modifier.isFinal(modifiers));
        constants();
        constructors();
        methods();
        for (Class<?> inside : FeedDesk.class.getDeclaredClasses()) {
            int m = inside.getModifiers();
            check.holds(inside + " is static, and not public or protected",
                    Modifier.isStatic(m) && !Modifier.isPublic(m) && !Modifier.isProtected(m));
        }
        check.end();
    }

    private static void constants() {
        check.due("NONE", FeedDesk.NONE, -1);
        check.due("WRONG", FeedDesk.WRONG, -2);
        check.due("REFUSED", FeedDesk.REFUSED, -3);
        check.due("FULL", FeedDesk.FULL, -4);
        TreeSet<String> seen = new TreeSet<>();
        for (Field field : FeedDesk.class.getDeclaredFields()) {
            int m = field.getModifiers();
            check.holds(field + " is public or private", Modifier.isPublic(m) || Modifier.isPrivate(m));
            check.holds(field + " is final if static", !Modifier.isStatic(m) || Modifier.isFinal(m));
            if (Modifier.isPublic(m)) {
                seen.add(field.getName());
            }
        }
        check.holds("the public fields are the constants, not " + seen,
                seen.equals(new TreeSet<>(Arrays.asList("NONE", "WRONG", "REFUSED", "FULL"))));
    }

    private static void constructors() {
        Constructor<?>[] all = FeedDesk.class.getDeclaredConstructors();
        check.due("constructors", all.length, 1);
        check.holds("it is public and takes nothing",
                Modifier.isPublic(all[0].getModifiers()) && all[0].getParameterCount() == 0);
    }

    private static void methods() {
        TreeSet<String> seen = new TreeSet<>();
        TreeSet<String> names = new TreeSet<>();
        for (Method method : FeedDesk.class.getDeclaredMethods()) {
            if (Modifier.isPublic(method.getModifiers())) {
                seen.add(told(method));
                names.add(method.getName());
                check.holds(method + " answers an int", method.getReturnType() == int.class);
            }
        }
        check.holds("the public methods are the document's, not " + seen,
                seen.equals(new TreeSet<>(Arrays.asList(METHODS))));
        for (Method method : FeedDesk.class.getDeclaredMethods()) {
            int m = method.getModifiers();
            check.holds(method + " is public, or private with a name of its own",
                    Modifier.isPublic(m) || Modifier.isPrivate(m) && !names.contains(method.getName()));
        }
    }

    private static String told(Method method) {
        StringBuilder out = new StringBuilder(method.getName()).append('(');
        for (Class<?> type : method.getParameterTypes()) {
            out.append(out.charAt(out.length() - 1) == '(' ? "" : ",").append(type.getName());
        }
        return out.append(')').toString();
    }
}
