import java.lang.reflect.Constructor;
import java.lang.reflect.Field;
import java.lang.reflect.Member;
import java.lang.reflect.Method;
import java.lang.reflect.Modifier;
import java.util.ArrayList;
import java.util.Arrays;
import java.util.HashSet;
import java.util.List;
import java.util.NoSuchElementException;
import java.util.Set;

/** The class has the document's face and no other one (LANGUAGE.md, rules 1 and 5). */
public final class FaceTest {
    private static final String[] FACE = {
        "int feed(int,int,int,int,int)", "boolean end(int)", "int office()", "int fault()",
        "int kind(int,int)", "int meets(int,int)", "int soul(int,int) throws NoSuchElementException",
        "int debt(int,int)", "int now(int)", "int why(int,int)", "int give(int,int)", "int days(int)",
        "int clerk(int)", "int settled(int,int)", "int undo()", "int most(int)", "int gives(int)",
        "int hopeless(int)", "int net(int) throws NoSuchElementException", "int fewest()",
        "int groups()", "int were(int,int)", "int first(int)", "int appeal(int,int)",
        "boolean grant(int,int)", "int ends()", "int later(int)", "int queue(int)",
        "int drawn(int,int)", "int odds(int,int)", "int greatest(int)", "int daybook(int)",
        "int booked(int)", "int sentence()", "int said(int)", "boolean image(int)",
        "boolean restore(int)", "int count(int)",
    };
    private static int wrong = 0;

    public static void main(String[] args) {
        check(Modifier.isPublic(SoulOffice.class.getModifiers()), "the class is public");
        check(Modifier.isFinal(SoulOffice.class.getModifiers()), "the class is final");
        checkMethods();
        checkFields();
        checkConstructor();
        for (Class<?> inside : SoulOffice.class.getDeclaredClasses()) {
            checkInside(inside);
        }
        System.out.println(wrong == 0 ? "the face is as told" : wrong + " wrong");
        System.exit(wrong == 0 ? 0 : 1);
    }

    private static void checkMethods() {
        List<String> told = new ArrayList<>(Arrays.asList(FACE));
        Set<String> names = new HashSet<>();
        for (Method m : SoulOffice.class.getDeclaredMethods()) {
            if (Modifier.isPrivate(m.getModifiers())) {
                continue;
            }
            names.add(m.getName());
            check(Modifier.isPublic(m.getModifiers()) && !Modifier.isStatic(m.getModifiers()), m + " is public");
            check(told.remove(described(m)), described(m) + " is told");
        }
        check(told.isEmpty(), "missing: " + told);
        for (Class<?> c : withInside()) {
            for (Method m : c.getDeclaredMethods()) {
                boolean ofFace = c == SoulOffice.class && Modifier.isPublic(m.getModifiers());
                check(ofFace || !names.contains(m.getName()), m + " bears a name of the face");
            }
        }
    }

    private static String described(Method m) {
        List<String> parameters = new ArrayList<>();
        for (Class<?> p : m.getParameterTypes()) {
            parameters.add(p.getName());
        }
        String text = m.getReturnType().getName() + " " + m.getName() + "(" + String.join(",", parameters) + ")";
        for (Class<?> e : m.getExceptionTypes()) {
            text += " throws " + (e == NoSuchElementException.class ? "NoSuchElementException" : e.getName());
        }
        return text;
    }

    private static void checkFields() {
        for (Field f : SoulOffice.class.getDeclaredFields()) {
            check(f.getName().equals("NONE") || Modifier.isPrivate(f.getModifiers()), f + " is private");
        }
        for (Class<?> c : withInside()) {
            for (Field f : c.getDeclaredFields()) {
                check(!Modifier.isStatic(f.getModifiers()) || Modifier.isFinal(f.getModifiers()), f + " is final");
            }
        }
        check(SoulOffice.NONE == -1, "NONE is -1");
    }

    private static void checkConstructor() {
        Constructor<?>[] all = SoulOffice.class.getDeclaredConstructors();
        check(all.length == 1 && all[0].getParameterCount() == 0
                && Modifier.isPublic(((Member) all[0]).getModifiers()), "one public constructor");
    }

    private static void checkInside(Class<?> inside) {
        check(Modifier.isStatic(inside.getModifiers()), inside + " is static");
        check(!Modifier.isPublic(inside.getModifiers()) && !Modifier.isProtected(inside.getModifiers()),
                inside + " is private or package-visible");
    }

    private static List<Class<?>> withInside() {
        List<Class<?>> all = new ArrayList<>();
        all.add(SoulOffice.class);
        all.addAll(Arrays.asList(SoulOffice.class.getDeclaredClasses()));
        return all;
    }

    private static void check(boolean holds, String what) {
        if (!holds) {
            wrong++;
            System.out.println("not so: " + what);
        }
    }
}
