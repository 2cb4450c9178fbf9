import java.lang.reflect.Constructor;
import java.lang.reflect.Field;
import java.lang.reflect.Method;
import java.lang.reflect.Modifier;
import java.util.Arrays;
import java.util.TreeSet;

/** The public face is the document's, and nothing else of the class can be seen. */
final class FaceTest {
    private static final String[] METHODS = {"int one(int,int,int,int)", "int leave(int)", "int set(int,int)",
        "int say(int)", "int wipe()", "int fault()", "int judge(int)", "int behind(int,int)", "int basket()",
        "int passed(int)", "int oldest(int)", "int done()", "int lasts(int,int)", "int keeps(int,int,int,int)",
        "int plan(int,int,int,int,int,int)", "int envy(int,int)", "int refuses(int)", "int seen(int,int)",
        "int forget()", "int gave(int)", "int ask(int)", "int thieves(int,int,int)", "long worms(int,int,int,int,int)",
        "int year(int,int,int)", "int image(int)", "int restore(int)", "int told(int)"};

    public static void main(String[] args) throws Exception {
        Class<?> c = MorningBite.class;
        Check.holds("public and final", c.getModifiers() == (Modifier.PUBLIC | Modifier.FINAL));
        Check.holds("no package", c.getPackageName().isEmpty());
        TreeSet<String> seen = new TreeSet<>();
        TreeSet<String> names = new TreeSet<>();
        for (Method m : c.getDeclaredMethods()) {
            if (!Modifier.isPrivate(m.getModifiers())) {
                Check.holds("public, not static: " + m, m.getModifiers() == Modifier.PUBLIC);
                seen.add(signature(m));
                names.add(m.getName());
            }
        }
        Check.holds("methods: " + seen, seen.equals(new TreeSet<>(Arrays.asList(METHODS))));
        for (Method m : c.getDeclaredMethods()) {
            Check.holds("a name of its own: " + m, !Modifier.isPrivate(m.getModifiers()) || !names.contains(m.getName()));
        }
        Constructor<?>[] constructors = c.getDeclaredConstructors();
        Check.due("constructors", constructors.length, 1);
        Check.holds("the constructor", Modifier.isPublic(constructors[0].getModifiers())
            && constructors[0].getParameterCount() == 0);
        fields(c);
        for (Class<?> inner : c.getDeclaredClasses()) {
            Check.holds("static, not public: " + inner, Modifier.isStatic(inner.getModifiers())
                && !Modifier.isPublic(inner.getModifiers()) && !Modifier.isProtected(inner.getModifiers()));
            for (Method m : inner.getDeclaredMethods()) {
                Check.holds("a name of its own: " + m, !names.contains(m.getName()));
            }
        }
        Check.end();
    }

    private static void fields(Class<?> c) throws Exception {
        String[] names = {"UNKNOWN", "OUTSIDE", "STATE", "FULL", "NO", "NONE"};
        for (int i = 0; i < names.length; i++) {
            Check.due(names[i], c.getField(names[i]).getInt(null), -1 - i);
            Check.holds(names[i] + " is an int", c.getField(names[i]).getType() == int.class);
        }
        Check.due("GONE", c.getField("GONE").getLong(null), -1000000000000000000L);
        int visible = 0;
        for (Field f : c.getDeclaredFields()) {
            boolean isPrivate = Modifier.isPrivate(f.getModifiers());
            visible += isPrivate ? 0 : 1;
            Check.holds("a constant: " + f, isPrivate
                || f.getModifiers() == (Modifier.PUBLIC | Modifier.STATIC | Modifier.FINAL));
        }
        Check.due("constants", visible, 7);
    }

    private static String signature(Method m) {
        StringBuilder s = new StringBuilder(m.getReturnType().getName() + " " + m.getName() + "(");
        for (Class<?> p : m.getParameterTypes()) {
            s.append(s.charAt(s.length() - 1) == '(' ? "" : ",").append(p.getName());
        }
        return s.append(")").toString();
    }
}
