import java.lang.reflect.Constructor;
import java.lang.reflect.Field;
import java.lang.reflect.Method;
import java.lang.reflect.Modifier;
import java.util.Arrays;
import java.util.TreeSet;

/** The face of the class is the document's and no more; limits of LANGUAGE.md that can be counted. */
public final class FaceTest {
    private static final String[] FACE = {
        "int feed(int,int,int,int,int)", "boolean end(int)", "int world()", "int fault()", "int submit(int)", "int put(int,int)",
        "int check()", "int crash(int)", "int ticks(int)", "int undo()", "int now(int)", "int value(int,int)", "int key(int,int)",
        "int trans(int,int)", "int arrived(int,int)", "int entry(int,int)", "int how(int,int)", "int foreseen(int,int)",
        "int asks(int,int,int)", "int ready(int,int)", "int waits(int,int)", "int serial(int)", "int same()", "int chain()",
        "int least()", "int over()", "int so()", "int soAt(int)", "int ask()", "int drawn(int,int)", "int odds(int,int)",
        "int book(int)", "int told(int)", "int sentence()", "int said(int)", "boolean image(int)", "boolean restore(int)",
        "int count(int)"};
    private static final Due due = new Due("FaceTest");

    private static String signature(Method m) {
        StringBuilder text = new StringBuilder(m.getReturnType().getSimpleName()).append(' ').append(m.getName()).append('(');
        for (Class<?> type : m.getParameterTypes()) {
            text.append(text.charAt(text.length() - 1) == '(' ? "" : ",").append(type.getSimpleName());
        }
        return text.append(')').toString();
    }

    private static void face() {
        TreeSet<String> found = new TreeSet<>();
        TreeSet<String> names = new TreeSet<>();
        for (Method m : AgreedInput.class.getDeclaredMethods()) {
            if (!Modifier.isPrivate(m.getModifiers())) {
                found.add(signature(m));
                names.add(m.getName());
                due.is(m.getName() + " is public, of an object", m.getModifiers(), Modifier.PUBLIC);
                boolean tells = Arrays.asList("value", "key", "serial").contains(m.getName());
                due.is(m.getName() + " tells what it throws", m.getExceptionTypes().length, tells ? 1 : 0);
            }
        }
        TreeSet<String> wanted = new TreeSet<>(Arrays.asList(FACE));
        if (!found.equals(wanted)) {
            System.out.println("found " + found);
        }
        due.is("the methods of the face", found.equals(wanted), true);
        for (Method m : AgreedInput.class.getDeclaredMethods()) {
            due.is("private " + m.getName(), Modifier.isPrivate(m.getModifiers()) && names.contains(m.getName()), false);
        }
        for (Class<?> inner : AgreedInput.class.getDeclaredClasses()) {
            for (Method m : inner.getDeclaredMethods()) {
                due.is(inner.getSimpleName() + " has a method of the face's name: " + m.getName(), names.contains(m.getName()), false);
            }
        }
    }

    private static void rest() {
        Class<?> type = AgreedInput.class;
        due.is("public final", type.getModifiers(), Modifier.PUBLIC | Modifier.FINAL);
        due.is("no package", type.getPackageName().isEmpty(), true);
        Constructor<?>[] made = type.getDeclaredConstructors();
        due.is("constructors", made.length, 1);
        due.is("a public one", made[0].getModifiers(), Modifier.PUBLIC);
        due.is("without parameters", made[0].getParameterCount(), 0);
        for (Field f : type.getDeclaredFields()) {
            boolean isNone = f.getName().equals("NONE");
            due.is(f.getName(), Modifier.isPublic(f.getModifiers()), isNone);
            due.is(f.getName() + " is private", Modifier.isPrivate(f.getModifiers()), !isNone);
        }
    }

    private static void sizes() {
        Class<?>[] inner = AgreedInput.class.getDeclaredClasses();
        due.is("classes, with the outer one", inner.length + 1 <= 12, true);
        count(AgreedInput.class);
        for (Class<?> type : inner) {
            due.is(type.getSimpleName() + " is static", Modifier.isStatic(type.getModifiers()), true);
            due.is(type.getSimpleName() + " is private", Modifier.isPrivate(type.getModifiers()), true);
            count(type);
        }
    }

    private static void count(Class<?> type) {
        int fields = 0;
        for (Field f : type.getDeclaredFields()) {
            if (Modifier.isStatic(f.getModifiers())) {
                due.is(type.getSimpleName() + "." + f.getName() + " is final", Modifier.isFinal(f.getModifiers()), true);
            } else {
                fields++;
            }
        }
        due.is(type.getSimpleName() + " has " + fields + " fields", fields <= 20, true);
        for (Method m : type.getDeclaredMethods()) {
            due.is(m.getName() + "'s parameters", m.getParameterCount() <= 7, true);
        }
    }

    public static void main(String[] args) {
        face();
        rest();
        sizes();
        due.finish();
    }
}
