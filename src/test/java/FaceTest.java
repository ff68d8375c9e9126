import java.lang.reflect.Constructor;
import java.lang.reflect.Field;
import java.lang.reflect.Method;
import java.lang.reflect.Modifier;
import java.util.Arrays;
import java.util.Set;
import java.util.TreeSet;

/** The public face is the document's, and nothing else can be seen (LANGUAGE.md, rules 1, 2, 5 and 11). */
final class FaceTest {
    private static final String[] FACE = {
        "int type(long, int)", "int clear()", "int chart()", "int child(int, int)", "int book(int, int)", "int plan(int)",
        "int tune(int, int)", "int given(int, int)", "int want(int, int, int)", "int choice(int)", "int go(int)", "int now(int)",
        "int anew()", "int term(int)", "int end(int)", "int best(int, int, int)", "int line(int, int, int)", "int ending(int)",
        "int easy()", "int stays(int, int)", "int rests(int, int, int)", "int blamed(int, int)", "int checks(int)",
        "int trial(int, int)", "int joined(int, int)", "int parts()", "int ahead(int, int)", "int halves(int)", "int lot(int)",
        "int rate(int, int)", "int keep(int)", "int back(int)", "int count(int)", "long trace()"};

    public static void main(String[] args) {
        constants();
        methods();
        constructors();
        fields(StarChart.class);
        inside();
        Due.close("FaceTest");
    }

    private static void constants() {
        Due.is("BAD", StarChart.BAD, -1);
        Due.is("STATE", StarChart.STATE, -2);
        Due.is("FULL", StarChart.FULL, -3);
        Due.is("NONE", StarChart.NONE, -9);
        Due.is("NO", StarChart.NO, -1000000);
        Set<String> seen = new TreeSet<>();
        for (Field f : StarChart.class.getDeclaredFields()) {
            if (Modifier.isPrivate(f.getModifiers())) continue;
            seen.add(f.getName());
            Due.yes(f.getName() + " is a public constant", f.getModifiers() == (Modifier.PUBLIC | Modifier.STATIC | Modifier.FINAL));
            Due.yes(f.getName() + " is an int", f.getType() == int.class);
        }
        Due.yes("no other constant: " + seen, seen.equals(Set.of("BAD", "STATE", "FULL", "NONE", "NO")));
    }

    private static String told(Method m) {
        StringBuilder text = new StringBuilder(m.getReturnType().getName()).append(' ').append(m.getName()).append('(');
        for (Class<?> type : m.getParameterTypes()) text.append(text.charAt(text.length() - 1) == '(' ? "" : ", ").append(type.getName());
        return text.append(')').toString();
    }

    private static void methods() {
        Set<String> seen = new TreeSet<>(), names = new TreeSet<>(), hidden = new TreeSet<>();
        for (Method m : StarChart.class.getDeclaredMethods()) {
            Due.yes(m.getName() + " takes seven at most", m.getParameterCount() <= 7);
            if (Modifier.isPrivate(m.getModifiers())) {
                hidden.add(m.getName());
                continue;
            }
            Due.yes(m.getName() + " is public, and nothing else", m.getModifiers() == Modifier.PUBLIC);
            seen.add(told(m));
            names.add(m.getName());
        }
        Due.yes("the document's calls: " + seen, seen.equals(new TreeSet<>(Arrays.asList(FACE))));
        for (Class<?> inner : StarChart.class.getDeclaredClasses()) {
            for (Method m : inner.getDeclaredMethods()) hidden.add(m.getName());
        }
        hidden.retainAll(names);
        Due.yes("no hidden method bears a public name: " + hidden, hidden.isEmpty());
    }

    private static void constructors() {
        Constructor<?>[] all = StarChart.class.getDeclaredConstructors();
        Due.is("constructors", all.length, 1);
        Due.yes("public, of nothing", all[0].getModifiers() == Modifier.PUBLIC && all[0].getParameterCount() == 0);
        Due.yes("public and final", StarChart.class.getModifiers() == (Modifier.PUBLIC | Modifier.FINAL));
        Due.yes("of no other class", StarChart.class.getSuperclass() == Object.class && StarChart.class.getInterfaces().length == 0);
    }

    private static void fields(Class<?> of) {
        int own = 0;
        for (Field f : of.getDeclaredFields()) {
            if (Modifier.isStatic(f.getModifiers())) Due.yes(f.getName() + " is final", Modifier.isFinal(f.getModifiers()));
            else own++;
        }
        Due.yes(of.getName() + " has twenty fields at most", own <= 20);
    }

    private static void inside() {
        Class<?>[] inner = StarChart.class.getDeclaredClasses();
        Due.yes("twelve classes at most", inner.length + 1 <= 12);
        for (Class<?> c : inner) {
            Due.yes(c.getName() + " is static", Modifier.isStatic(c.getModifiers()));
            Due.yes(c.getName() + " is not public", !Modifier.isPublic(c.getModifiers()) && !Modifier.isProtected(c.getModifiers()));
            Due.is(c.getName() + " has classes of its own", c.getDeclaredClasses().length, 0);
            fields(c);
        }
    }
}
