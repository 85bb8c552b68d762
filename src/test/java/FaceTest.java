import java.lang.reflect.Constructor;
import java.lang.reflect.Field;
import java.lang.reflect.Method;
import java.lang.reflect.Modifier;
import java.util.TreeSet;

/** The public face is there whole, and there is no other member that can be seen from outside. */
public final class FaceTest {
    private static final String[] FACE = {
        "int NONE = -1", "int LOGIN = -2", "int GRANT = -3", "int SCOPE = -4", "int TAKEN = -5",
        "int FULL = -6", "int FORM = -7", "int FORGED = -8", "int CLAIMS = -9", "int EXPIRED = -10",
        "int DEAD = -11", "int AUDIENCE = -12", "int REDIRECT = -13",
        "GrantServer(int, int, int, int)",
        "int client(int, int, int)", "boolean login(int, int)",
        "int authorize(int, int, int, int, int)", "int exchange(int, int, int, int)",
        "int refresh(int, int, int)", "int revoke(int, int)", "boolean active(int, int)",
        "int check(int, int)", "boolean key(char)", "boolean alter(int, char)",
        "int take(boolean)", "int letter(boolean, int)", "int challenge()", "int wrap()",
        "boolean tick(int)", "int sweep()", "int count(int, boolean)",
    };

    public static void main(String[] args) throws IllegalAccessException {
        Due due = new Due("FaceTest");
        TreeSet<String> want = new TreeSet<>();
        for (String member : FACE) {
            want.add(member);
        }
        TreeSet<String> got = membersSeen(due);
        for (String member : want) {
            due.yes("there is " + member, got.contains(member));
        }
        for (String member : got) {
            due.yes("the document names " + member, want.contains(member));
        }
        due.is("modifiers of the class", GrantServer.class.getModifiers(),
            Modifier.PUBLIC | Modifier.FINAL);
        due.yes("nothing is inherited but Object's",
            GrantServer.class.getSuperclass() == Object.class
                && GrantServer.class.getInterfaces().length == 0);
        noPrivateNamesake(due);
        for (Class<?> inside : GrantServer.class.getDeclaredClasses()) {
            int modifiers = inside.getModifiers();
            due.no(inside + " is seen", Modifier.isPublic(modifiers) || Modifier.isProtected(modifiers));
            due.yes(inside + " is static", Modifier.isStatic(modifiers));
        }
        due.end();
    }

    /** Rule 1 of LANGUAGE.md. */
    private static void noPrivateNamesake(Due due) {
        TreeSet<String> names = new TreeSet<>();
        for (Method m : GrantServer.class.getMethods()) {
            names.add(m.getName());
        }
        for (Method m : GrantServer.class.getDeclaredMethods()) {
            due.no(m + " bears a public method's name",
                Modifier.isPrivate(m.getModifiers()) && names.contains(m.getName()));
        }
    }

    private static TreeSet<String> membersSeen(Due due) throws IllegalAccessException {
        TreeSet<String> seen = new TreeSet<>();
        for (Field f : GrantServer.class.getDeclaredFields()) {
            if (!Modifier.isPrivate(f.getModifiers())) {
                due.is("modifiers of " + f, f.getModifiers(),
                    Modifier.PUBLIC | Modifier.STATIC | Modifier.FINAL);
                seen.add(f.getType() + " " + f.getName() + " = " + f.getInt(null));
            }
        }
        for (Constructor<?> c : GrantServer.class.getDeclaredConstructors()) {
            if (!Modifier.isPrivate(c.getModifiers())) {
                due.is("modifiers of " + c, c.getModifiers(), Modifier.PUBLIC);
                seen.add("GrantServer" + told(c.getParameterTypes()));
            }
        }
        for (Method m : GrantServer.class.getDeclaredMethods()) {
            if (!Modifier.isPrivate(m.getModifiers())) {
                due.is("modifiers of " + m, m.getModifiers(), Modifier.PUBLIC);
                seen.add(m.getReturnType() + " " + m.getName() + told(m.getParameterTypes()));
            }
        }
        return seen;
    }

    private static String told(Class<?>[] types) {
        StringBuilder text = new StringBuilder("(");
        for (int i = 0; i < types.length; i++) {
            text.append(i == 0 ? "" : ", ").append(types[i]);
        }
        return text.append(")").toString();
    }
}
