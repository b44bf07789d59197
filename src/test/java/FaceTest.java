import java.lang.reflect.Constructor;
import java.lang.reflect.Field;
import java.lang.reflect.Method;
import java.lang.reflect.Modifier;
import java.util.Arrays;
import java.util.Set;
import java.util.TreeSet;

/** The class has the document's face and nothing else that can be seen from outside. */
public final class FaceTest {
    private static final String METHODS = "feed(int,int,int,int,int):int end(int):boolean falls():int fault():int "
        + "person(int,int):int item(int,int):int join(int,int):int now(int):int go(int):int free(int):int "
        + "unload(int):int load(int):int bind(int):int days(int):int undo():int fate(int):int straw(int):int "
        + "lighten(int):int lightened():int keep(int):int keeps():int apart(int,int):int crack(int):int "
        + "drops(int):int who():int heights():int lowest():int watch():int heaviest():int mean(int,int):int "
        + "tag(int):int byteAt(int):int drawn(int,int):int odds(int,int,int):int book(int):int told(int):int "
        + "sentence():int said(int):int image(int):boolean restore(int):boolean count(int):int";

    private static int wrong = 0;

    private static void due(String what, Object got, Object want) {
        if (!got.equals(want)) {
            wrong++;
            System.out.println(what + ": " + got + ", due is " + want);
        }
    }

    private static String signature(Method m) {
        StringBuilder s = new StringBuilder(m.getName()).append("(");
        for (Class<?> c : m.getParameterTypes()) s.append(s.charAt(s.length() - 1) == '(' ? "" : ",").append(c.getName());
        return s.append("):").append(m.getReturnType().getName()).toString();
    }

    public static void main(String[] args) throws Exception {
        Class<?> c = GoingOver.class;
        due("the class is public and final", c.getModifiers(), Modifier.PUBLIC | Modifier.FINAL);
        due("it extends nothing", c.getSuperclass(), Object.class);
        Set<String> open = new TreeSet<>();
        Set<String> names = new TreeSet<>();
        Set<String> closed = new TreeSet<>();
        for (Method m : c.getDeclaredMethods()) {
            if (Modifier.isPrivate(m.getModifiers())) {
                closed.add(m.getName());
            } else {
                open.add(signature(m));
                names.add(m.getName());
                due(m.getName() + " is public", m.getModifiers(), Modifier.PUBLIC);
                boolean throwing = m.getName().equals("person") || m.getName().equals("mean");
                due(m.getName() + " throws", m.getExceptionTypes().length, throwing ? 1 : 0);
            }
        }
        due("the methods", open, new TreeSet<>(Arrays.asList(METHODS.split(" "))));
        due("how many", open.size(), 41);
        closed.retainAll(names);
        due("private ones with a public one's name", closed, new TreeSet<String>());
        for (Field f : c.getDeclaredFields()) {
            if (f.getName().equals("NONE"))
                due("NONE", f.getModifiers(), Modifier.PUBLIC | Modifier.STATIC | Modifier.FINAL);
            else due(f.getName() + " is private", Modifier.isPrivate(f.getModifiers()), true);
            if (Modifier.isStatic(f.getModifiers()))
                due(f.getName() + " is final", Modifier.isFinal(f.getModifiers()), true);
        }
        due("constructors", c.getDeclaredConstructors().length, 1);
        Constructor<?> made = c.getDeclaredConstructors()[0];
        due("the constructor is public", made.getModifiers(), Modifier.PUBLIC);
        due("it takes nothing", made.getParameterCount(), 0);
        for (Class<?> inside : c.getDeclaredClasses()) {
            due(inside.getName() + " is static", Modifier.isStatic(inside.getModifiers()), true);
            due(inside.getName() + " is not open", Modifier.isPublic(inside.getModifiers()) || Modifier.isProtected(inside.getModifiers()), false);
        }
        if (wrong > 0) System.exit(1);
        System.out.println("the face is as told");
    }
}
